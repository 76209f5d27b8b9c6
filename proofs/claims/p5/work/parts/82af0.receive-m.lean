section
def XRC (u0 : MS) (TN SN : Nat) (bw : Nat → Nat) (D o : Int) (fn : MS → Int32 → Int32 → Option (MS × Int32)) : Prop := ∀ (u : MS) (σ : Nat) (p n q c f h s wt t : Int), ST u0 σ p o n q c f h s wt 0 u → F u 67 = 0 → NM TN bw 0 0 0 σ p o n q c f h s wt → LGS σ u → (2 * q + 1 ≤ p ∧ n + 2 ≤ 3 * p ∧ 0 ≤ t ∧ t < 4002) → OK (fun x r => CHQ u0 TN SN bw σ 0 p o n q c f h s wt u x r ∨ FSM u0 TN σ D x) (fn u (I t) (I (A u 60 σ)))
section
variable {Q : MS → Int32 → Prop} {u0 u v w x V X : MS} {N σ TN SN e j k n0 R0 : Nat} {bw : Nat → Nat} {p o n q c f h s wt g D d B l z t p1 n1 q1 c1 f1 h1 a : Int} {r v2 v3 v4 : Int32} {S : SG_M_behind}
theorem r98_ok (tk : TKW u0 TN SN bw) (hD : 0 ≤ D ∧ D ≤ 2900) (ho : 0 ≤ o ∧ o ≤ 25) (hx : XSP u0 TN SN bw D 3 0 0 0 o S.2.2.2.2.2.2.2.2.2.2.2.2.2.1) (hb : XSB u0 TN SN bw D o S.2.2.2.2.1) (hbn : XNO S.2.2.2.2.1) (hm : NM TN bw 0 0 0 σ p o (n + 2) q c f h s wt) (hu : F u 32 = n ∧ 0 ≤ n) (lu : LGS σ u) (hv : RHV u0 TN SN bw σ j p o n q c f h s wt u V k p1 n1 q1 c1 f1 h1) (hk : 0 < k ∨ IW V 0) : OK (fun x r => CHQ u0 TN SN bw σ 0 p o n q c f h s wt u x r ∨ FSM u0 TN σ (D + 4) x) (fb_M_receive_98 N S () V (I (A u 60 σ)) (I j) (I ((j + 1 : Nat) : Int))) := by
  have hT := tk.1.1
  have e69 : F V 69 = p1 := hv.2.1.2.1.1
  have f0 : F V 67 = 0 := hv.1
  have hp : 0 ≤ p1 ∧ p1 ≤ TN := ⟨by have := hv.2.2.2.2.1.1; have := hm.1; omega, hv.2.2.2.1.1⟩
  unfold fb_M_receive_98
  refine k_takeWord (s := 0) rfl ⟨by decide, by decide⟩ (by omega) (fun _ iw => ?_) (fun hn => ?_)
  · rw [br10]
    exact recv1_ok tk hD ho hx hb hbn hm hu lu hv iw
  · rw [br00]
    have hk2 : 0 < k := by
      rcases hk with y | y
      · exact y
      · rcases hn with z | z
        · exact absurd f0 z
        · exact absurd y z
    exact ok_mono (recv0_ok tk hD ho hm hu hv hk2) (fun x r hx => by
      rcases hx with y | y
      · exact Or.inl y
      · exact Or.inr (FSM_mo y (by omega)))
theorem r67_ok (tk : TKW u0 TN SN bw) (hD : 0 ≤ D ∧ D ≤ 2900) (ho : 0 ≤ o ∧ o ≤ 25) (hx : XSP u0 TN SN bw D 3 0 0 0 o S.2.2.2.2.2.2.2.2.2.2.2.2.2.1) (hb : XSB u0 TN SN bw D o S.2.2.2.2.1) (hbn : XNO S.2.2.2.2.1) (hm : NM TN bw 0 0 0 σ p o (n + 2) q c f h s wt) (hu : F u 32 = n ∧ 0 ≤ n) (lu : LGS σ u) (hv : RHV u0 TN SN bw σ j p o n q c f h s wt u V k p1 n1 q1 c1 f1 h1) : OK (fun x r => CHQ u0 TN SN bw σ 0 p o n q c f h s wt u x r ∨ FSM u0 TN σ (D + 4) x) (fb_M_receive_67 N S () V (I (A u 60 σ)) (I j) (I ((j + 1 : Nat) : Int))) := by
  have hT := tk.1.1
  have e69 : F V 69 = p1 := hv.2.1.2.1.1
  have f0 : F V 67 = 0 := hv.1
  have hp : 0 ≤ p1 ∧ p1 ≤ TN := ⟨by have := hv.2.2.2.2.1.1; have := hm.1; omega, hv.2.2.2.1.1⟩
  have nm1 := NM_dlt tk hm hv.2.2.2.2.1 (by omega) (by omega) hp.2
  have fs1 := NM_fs nm1 (by omega)
  have hj : (j : Int) = n := hv.2.2.2.1.2
  have jn : (j : Int) + 2 ≤ n1 := by have := hv.2.2.2.2.1.2.1; omega
  have hc : 0 ≤ c := by unfold NM at hm; omega
  unfold fb_M_receive_67
  refine k_F (y := 0) rfl ⟨by decide, by decide⟩ (fun _ => ?_) (fun z => absurd f0 z)
  refine k_in (k := 25) (n := 16000) rfl (by decide) (by omega) ?_
  refine k_A (y := -1) rfl ⟨by decide, by decide⟩ (fun z => ?_) (fun z => ?_)
  · refine k_isWord (s := 0) rfl ⟨by decide, by decide⟩ (by omega) (fun iw => r98_ok tk hD ho hx hb hbn hm hu lu hv (Or.inr iw)) (fun _ => ?_)
    refine k_wrong (s := 2) rfl ⟨by decide, by decide⟩ (by decide) (by omega) (fun v3 h1' h2' => ?_)
    have s3 : FSM u0 TN σ D v3 := FSM_of (ST_67 hv.2.1 h1') (by omega) (by omega) fs1.1 h2'
    exact ok_mono (r98_F (N := N) (j := j) hT (by omega) s3 (by omega)) (fun x t hx => Or.inr (FSM_mo hx (by omega)))
  · refine r98_ok tk hD ho hx hb hbn hm hu lu hv (Or.inl ?_)
    rw [I_tn (by omega) (by omega), show ((j + 1 : Nat) : Int).toNat = j + 1 by omega] at z
    rcases hv.2.2.2.2.2.2.2.2.1 with y | y
    · exact absurd y.2.1 z
    · exact y.1
theorem r67_F (hT : TN ≤ 4000) (hD : D ≤ 3000) (hs : FSM u0 TN σ D V) (hj : j + 1 < 16000) : OK (fun x _ => FSM u0 TN σ (D + 1) x) (fb_M_receive_67 N S () V v2 (I j) (I ((j + 1 : Nat) : Int))) := by
  unfold fb_M_receive_67
  exact k_F (y := 0) rfl ⟨by decide, by decide⟩ (fun z => absurd z hs.2.1) (fun _ => r98_F hT hD hs hj)
set_option maxRecDepth 100000 in
theorem receive_ok (tk : TKW u0 TN SN bw) (hD : 0 ≤ D ∧ D ≤ 2900) (ho : 0 ≤ o ∧ o ≤ 25) (hpt : XPT u0 TN SN bw D o S.2.2.1) (hx : XSP u0 TN SN bw D 3 0 0 0 o S.2.2.2.2.2.2.2.2.2.2.2.2.2.1) (hb : XSB u0 TN SN bw D o S.2.2.2.2.1) (hbn : XNO S.2.2.2.2.1) : XRC u0 TN SN bw (D + 10) o (fm_M_receive N S) := by
  intro u σ p n q c f h s wt t hs hf hm hl ⟨hq, hn3, ht⟩
  have hT := tk.1.1
  have fs := NM_fs hm (by omega)
  have e32 : F u 32 = n := hs.2.1.2.2.1
  have sc := (hs.2.2.2.1 σ (Nat.le_refl σ)).1
  have bad : ∀ (k : Int) w, k ≤ 10 → FSM u0 TN σ (D + k) w → FSM u0 TN σ (D + 10) w := fun k w hk hw => FSM_mo hw (by omega)
  have bad2 : ∀ {x r}, CHQ u0 TN SN bw σ 0 p o n q c f h s wt u x r ∨ FSM u0 TN σ (D + 4) x → CHQ u0 TN SN bw σ 0 p o n q c f h s wt u x r ∨ FSM u0 TN σ (D + 10) x := fun hx => by
    rcases hx with y | y
    · exact Or.inl y
    · exact Or.inr (FSM_mo y (by omega))
  have z1 : ∀ (w : MS) (k i : Nat), upA w k (upd (w.2.2.1 k) i (-1)) = wa w k i (-1) := fun _ _ _ => rfl
  unfold fm_M_receive fb_M_receive_0
  refine k_node (k := 26) (t := t) rfl (by decide) rfl ht (by omega) (fun u1 h1 => ?_)
  rw [e32]
  have nd1 := h1.1
  have s1 := ST_nd hs nd1 ht (by omega) (fun z => by omega)
  have e321 : F u1 32 = n + 1 := s1.2.1.2.2.1
  have k1 : KPR σ u u1 := KPR_nd KPR_rf nd1 (by omega)
  have nn1 : NEWN u1 n.toNat 26 := by
    have := NEWN_of h1 ht
    rw [e32] at this
    exact this
  have on1 : ONE (mks u) (mks u1) n.toNat := by
    have := ONE_nd nd1 (by omega)
    rw [e32] at this
    exact this
  refine k_node (k := 27) (t := t) rfl (by decide) rfl ht (by omega) (fun u2 h2 => ?_)
  rw [e321]
  have nd2 := h2.1
  have s2 := ST_nd s1 nd2 ht (by omega) (fun z => by omega)
  have k2 : KPR σ u u2 := KPR_nd k1 nd2 (by omega)
  have k12 : KPR σ u1 u2 := KPR_nd KPR_rf nd2 (by omega)
  have nn2 : NEWN u2 (n.toNat + 1) 27 := by
    have := NEWN_of h2 ht
    rw [e321, show (n + 1).toNat = n.toNat + 1 by omega] at this
    exact this
  have h25 : A u2 25 (n.toNat + 1) = -1 := by
    have := h2.2.1
    rw [e321, show (n + 1).toNat = n.toNat + 1 by omega] at this
    exact this
  have on2 : ONE (mks u1) (mks u2) (n.toNat + 1) := by
    have := ONE_nd nd2 (by omega)
    rw [e321, show (n + 1).toNat = n.toNat + 1 by omega] at this
    exact this
  refine k_in (k := 27) (n := 16000) rfl (by decide) (by omega) (ok_lt.mpr (k_in (k := 31) (n := 16000) rfl (by decide) (by omega) (ok_lt.mpr ?_)))
  have R0e : (I (n + 1) : Int32) = I ((n.toNat + 1 : Nat) : Int) := by rw [show ((n.toNat + 1 : Nat) : Int) = n + 1 by omega]
  have R0j : (I n : Int32) = I ((n.toNat : Nat) : Int) := by rw [show ((n.toNat : Nat) : Int) = n by omega]
  rw [R0e, R0j, I_tn (x := ((n.toNat + 1 : Nat) : Int)) (by omega) (by omega), show ((n.toNat + 1 : Nat) : Int).toNat = n.toNat + 1 by omega, wa_e, z1]
  have s3 : ST u0 σ p o (n + 1 + 1) q c f h s wt 0 (wa (wa u2 27 (n.toNat + 1) (A u 60 σ)) 31 (n.toNat + 1) (-1)) := ST_wa (ST_wa s2 (by decide)) (by decide)
  have k3 : KPR σ u (wa (wa u2 27 (n.toNat + 1) (A u 60 σ)) 31 (n.toNat + 1) (-1)) := KPR_wn (KPR_wn k2 (by decide) (by omega)) (by decide) (by omega)
  have g3 : ∀ r i, r ≠ 27 → r ≠ 31 → A (wa (wa u2 27 (n.toNat + 1) (A u 60 σ)) 31 (n.toNat + 1) (-1)) r i = A u2 r i := fun r i h1 h2 => by rw [wa_rne h2, wa_rne h1]
  have a27 : A (wa (wa u2 27 (n.toNat + 1) (A u 60 σ)) 31 (n.toNat + 1) (-1)) 27 (n.toNat + 1) = A u 60 σ := by rw [wa_rne (by decide)]; exact wa_eq (ARG1 u 60 σ)
  have a31 : A (wa (wa u2 27 (n.toNat + 1) (A u 60 σ)) 31 (n.toNat + 1) (-1)) 31 (n.toNat + 1) = -1 := wa_eq ⟨by decide, by decide⟩
  have f3 : ∀ t, t ≠ 32 → F (wa (wa u2 27 (n.toNat + 1) (A u 60 σ)) 31 (n.toNat + 1) (-1)) t = F u t := fun t ht => by
    rw [F_wa, F_wa, nd2.1.F (by simpa using ht), nd1.1.F (by simpa using ht)]
  have mk3 : mks (wa (wa u2 27 (n.toNat + 1) (A u 60 σ)) 31 (n.toNat + 1) (-1)) = mks u2 := mks_c (fun k _ => by rw [F_wa, F_wa])
  generalize wa (wa u2 27 (n.toNat + 1) (A u 60 σ)) 31 (n.toNat + 1) (-1) = W at *
  rw [show n + 1 + 1 = n + 2 by omega] at s3
  have nm3 : NM TN bw 0 0 0 σ p o (n + 2) q c f h s wt := by unfold NM at hm ⊢; omega
  have w60 : A W 60 σ = A u 60 σ := by rw [g3 60 σ (by decide) (by decide), nd2.1.A (by decide), nd1.1.A (by decide)]
  have l3 : LGS σ W := fun z => by rw [w60]; exact hl (by rw [← f3 66 (by decide)]; exact z)
  have w67 : F W 67 = 0 := (f3 67 (by decide)).trans hf
  have w69 : F W 69 = p := s3.2.1.1
  have w46 : F W 46 = c := s3.2.1.2.2.2.2.1
  have w32 : F W 32 = n + 2 := s3.2.1.2.2.1
  have kj3 : KND W n.toNat 26 := by
    have e : ∀ r, r ≠ 27 → r ≠ 31 → A W r n.toNat = A u1 r n.toNat := fun r h1 h2 => by rw [g3 r _ h1 h2, nd2.2.2.2.2 r n.toNat (by omega)]
    unfold KND
    rw [e 23 (by decide) (by decide), e 24 (by decide) (by decide), e 28 (by decide) (by decide), e 29 (by decide) (by decide)]
    exact ⟨nn1.1, nn1.2.1, nn1.2.2.1, nn1.2.2.2.1, nn1.2.2.2.2.1⟩
  have kn3 : A W 23 (n.toNat + 1) = 27 ∧ 0 ≤ A W 24 (n.toNat + 1) ∧ A W 24 (n.toNat + 1) < 4002 ∧ A W 29 (n.toNat + 1) = -1 := by
    rw [g3 23 _ (by decide) (by decide), g3 24 _ (by decide) (by decide), g3 29 _ (by decide) (by decide)]
    exact ⟨nn2.1, nn2.2.1, nn2.2.2.1, nn2.2.2.2.2.1⟩
  have w28 : A W 28 (n.toNat + 1) = -1 := by rw [g3 28 _ (by decide) (by decide)]; exact nn2.2.2.2.1
  have w25 : A W 25 (n.toNat + 1) = -1 := by rw [g3 25 _ (by decide) (by decide)]; exact h25
  have on2' : ONE (mks u1) (mks W) (n.toNat + 1) := by rw [mk3]; exact on2
  have v0 : RHV u0 TN SN bw σ n.toNat p o n q c f h s wt u W 0 p (n + 2) q c f h := by
    refine ⟨w67, s3, k3, ⟨by omega, by omega⟩, DLT_0, ⟨[], w28, fun r hr => by cases hr⟩, ⟨w60, sc.1⟩, ⟨kj3, kn3, a27, a31⟩, Or.inl ⟨rfl, w25, w28⟩, fun y1 y2 y3 => ?_⟩
    have lg := l3 y2
    have s64 := (s3.2.2.2.1 σ (Nat.le_refl σ)).1
    have hc : 0 ≤ c := by unfold NM at hm; omega
    refine ⟨fun _ => mks W, fun _ => 0, mks u1, nmo σ u, 1, 0, ⟨fun j hj => by omega, fun j hj => by omega, fun z => by omega⟩, ⟨on1, on2', rfl, ?_⟩, fun j hj => by omega, fun z => by omega, ⟨?_, Nat.le_refl _⟩, ?_, ⟨by omega, Nat.le_refl _⟩, by omega⟩
    · show (F W 46).toNat = _; rw [w46]
    · unfold nmo; omega
    · unfold nmo; omega
  refine k_isWord (s := 0) rfl ⟨by decide, by decide⟩ (by omega) (fun _ => ?_) (fun _ => ?_)
  · exact ok_mono (r67_ok tk hD ho hx hb hbn nm3 ⟨e32, by omega⟩ hl v0) (fun x r hx => bad2 hx)
  refine k_isWord (s := 6) rfl ⟨by decide, by decide⟩ (by omega) (fun _ => ?_) (fun _ => ?_)
  · exact ok_mono (r67_ok tk hD ho hx hb hbn nm3 ⟨e32, by omega⟩ hl v0) (fun x r hx => bad2 hx)
  refine ok_bnd.mpr (ok_mono (hpt W σ (n.toNat + 1) 1 p (n + 2) q c f h s wt 0 s3 w67 nm3 l3 ⟨hq, by omega, w28⟩ (Or.inl ⟨rfl, rfl⟩)) (fun v r hv => ?_))
  refine k_in (k := 25) (n := 16000) rfl (by decide) (by omega) (ok_lt.mpr ?_)
  rcases hv with ⟨hr, k, l, pv, hk, b0, nv, qv, cv, fv, hhv, b1, b2, b3, b4, b5, ⟨b6, -, b8⟩, b9⟩ | hv
  · have hcc : 0 ≤ c ∧ c ≤ 2000 := by unfold NM at hm; omega
    have rc : RG c := ⟨by omega, by omega⟩
    have hn1 : n + 2 ≤ nv := b4.2.1
    have e32v : F v 32 = nv := b1.2.1.2.2.1
    rw [hr, wa_e]
    have vr : ∀ r i, r ∈ [23, 24, 25, 26, 27, 28, 29, 30, 31] → i < n.toNat + 2 → r ≠ 28 → A v r i = A W r i := fun r i hr hi h28 => by
      rw [b2.2.1.1 r i hr (by rw [F_wa, w32]; omega), wa_rne h28]
    have vj28 : A v 28 n.toNat = A W 28 n.toNat := by rw [b2.2.1.1 28 n.toNat (by decide) (by rw [F_wa, w32]; omega), wa_ne (by omega)]
    have kv : KPR σ u v := KPR_tr (KPR_wn (x := A v 28 (n.toNat + 1)) k3 (r := 28) (i := n.toNat + 1) (by decide) (by omega)) b2
    have g4 : ∀ r i, r ≠ 25 → A (wa v 25 (n.toNat + 1) c) r i = A v r i := fun r i h => wa_rne h
    have eqv : EQX σ (n.toNat + 2) v (wa v 25 (n.toNat + 1) c) := EQX_wa (by decide) (Or.inl (by omega))
    have vR : RHV u0 TN SN bw σ n.toNat p o n q c f h s wt u (wa v 25 (n.toNat + 1) c) k pv nv qv cv fv hhv := by
      refine ⟨b0, ST_wa25 b1 (by rw [vr 23 _ (by decide) (by omega) (by decide), kn3.1]; decide), KPR_wn kv (by decide) (by omega), ⟨b3, by omega⟩, DLT_mo b4 (by omega) (by omega) (by omega), ?_, ⟨by rw [g4 60 σ (by decide)]; exact b6.trans w60, sc.1⟩, ⟨?_, ?_, ?_, ?_⟩, Or.inr ⟨hk, wa_eq rc, b4.2.2.1, (b8 hk).2.2.2⟩, fun y1 y2 y3 => ?_⟩
      · have en : (n + 2).toNat = n.toNat + 2 := by omega
        obtain ⟨l', r1, r2⟩ := RTL_eqx b5 (by rw [en]; exact eqv)
        refine ⟨l', ?_, r2⟩
        rw [F_wa, g4 28 _ (by decide)]
        exact r1
      · unfold KND at kj3 ⊢
        rw [g4 23 _ (by decide), g4 24 _ (by decide), g4 28 _ (by decide), g4 29 _ (by decide), vr 23 _ (by decide) (by omega) (by decide), vr 24 _ (by decide) (by omega) (by decide), vj28, vr 29 _ (by decide) (by omega) (by decide)]
        exact kj3
      · rw [g4 23 _ (by decide), g4 24 _ (by decide), g4 29 _ (by decide), vr 23 _ (by decide) (by omega) (by decide), vr 24 _ (by decide) (by omega) (by decide), vr 29 _ (by decide) (by omega) (by decide)]
        exact kn3
      · rw [g4 27 _ (by decide), vr 27 _ (by decide) (by omega) (by decide)]; exact a27
      · rw [g4 31 _ (by decide), vr 31 _ (by decide) (by omega) (by decide)]; exact a31
      · obtain ⟨μ, rr, mm, X1, Y, ch, ⟨m0, mk⟩, rl, lk, q1, q2, q3, q4⟩ := b9 y1 y2 y3
        have m00 : μ 0 0 = n.toNat + 2 := by rw [m0]; show (F W 32).toNat = _; omega
        have chx := CHD_eqx ch eqv (by omega) (fun i => by rw [mk]; exact Nat.le_refl _)
        have rlx := RLS_eqx ch rl eqv (by omega) (fun i => by rw [mk]; exact Nat.le_refl _)
        have pm := PTD_m (ch.1 0 hk)
        have nmu : (A W 60 σ).toNat = nmo σ u := by unfold nmo; rw [w60]
        rw [nmu] at chx pm
        have hlx : hlo σ (wa v 25 (n.toNat + 1) c) = hlo σ v := by unfold hlo; rw [g4 63 σ (by decide)]
        refine ⟨μ, rr, mks u1, mm, X1, Y, by rw [hlx]; exact chx, ⟨on1, by rw [m0]; exact on2', mk, ?_⟩, rlx, fun y => by rw [g4 28 _ (by decide)]; exact (lk y).1, ⟨q1, pm.1⟩, by rw [g4 64 σ (by decide)]; exact q2, ⟨by omega, pm.2⟩, q4⟩
        rw [m0]; show (F W 46).toNat = _; rw [w46]
    exact ok_mono (r67_ok tk hD ho hx hb hbn nm3 ⟨e32, by omega⟩ hl vR) (fun x r hx => bad2 hx)
  · rw [I_of r, wa_e]
    exact ok_mono (r67_F (N := N) (j := n.toNat) hT (by omega) (FSM_wa hv (by decide)) (by omega)) (fun x t hx => Or.inr (FSM_mo hx (by omega)))
end
end
section
section
variable {Q : MS → Int32 → Prop} {u0 u v w x V X : MS} {N σ TN SN e j k n0 R0 : Nat} {bw : Nat → Nat} {p o n q c f h s wt g D d B l z t p1 n1 q1 c1 f1 h1 a : Int} {r v2 v3 v4 : Int32} {S : SG_M_behind}
theorem NM_j (hm : NM TN bw 0 1 0 σ p o n q c f h s wt) : NM TN bw 0 0 0 σ p o n q c f h s wt := by unfold NM at hm ⊢; omega
theorem DLT_b0 {p2 n2 q2 c2 f2 h2 : Int} (dn : DLT bw 3 1 1 p n q c f h (p + 1) n q c f h) (x5 : DLT bw 3 1 1 (p + 1) n q c f h p2 n2 q2 c2 f2 h2) : DLT bw 2 1 1 p n q c f h p2 n2 q2 c2 f2 h2 := by
  have t := DLT_tr dn x5
  unfold DLT at t ⊢
  omega
theorem CHQ_EXQ (ho : 0 ≤ o ∧ o ≤ 25) (hn : 0 ≤ n) (hs : ST u0 σ p o n q c f h s wt 0 u) (hl : LGS σ u) (dn : DLT bw 3 1 1 p n q c f h (p + 1) n q c f h) (hc : CHQ u0 TN SN bw σ 0 (p + 1) o n q c f h s wt (nx1 u) x r) : EXQ u0 TN SN bw σ (o - 1) p o n q c f h s wt 0 u x r := by
  obtain ⟨b0, p2, n2, q2, c2, f2, h2, e, b1, b2, b3, ⟨b4, b5, b6⟩, b7, b8, b9, b10⟩ := hc
  have kc : KPR σ u (nx1 u) := KPR_w0 KPR_rf (by decide)
  have ku := KPR_tr kc b3
  have x60 : A x 60 σ = A u 60 σ := b9
  refine ⟨b0, p2, n2, q2, c2, f2, h2, e, b1, b2, ku, b4, by rw [b6]; exact DLT_b0 dn b7, ⟨b8.1, b8.2.1, RTD_mo _ _ _ b8.2.2.1 (by omega), b8.2.2.2⟩, fun y => by rw [x60]; exact hl (ku.2.2.2.2.2.2 y), fun y1 y2 y3 => ?_⟩
  obtain ⟨mm, X, Y, g1, g2, g3, g4, g5⟩ := b10 y1 y2 y3
  have mv : mks (nx1 u) = mks u := wi_mks (by decide)
  have nv : nmo σ (nx1 u) = nmo σ u := rfl
  have nx : nmo σ x = nmo σ u := by unfold nmo; rw [x60]
  rw [mv, nv] at g1
  refine ⟨mm, X, Y, ?_, g2, g3, by omega, by omega⟩
  rw [nx]
  exact g1
theorem DLT_b1 {p1 n1 q1 c1 f1 h1 p2 n2 q2 c2 f2 h2 : Int} {bb : Nat} (dn : DLT bw 3 1 1 p n q c f h (p + 1) n q c f h) (x5 : DLT bw 2 1 bb (p + 1) n q c f h p1 n1 q1 c1 f1 h1) (d2 : DLT bw 3 1 1 p1 n1 q1 c1 f1 h1 (p1 + 1) n1 q1 c1 f1 h1) (d3 : DLT bw 3 1 1 (p1 + 1) n1 q1 c1 f1 h1 p2 n2 q2 c2 f2 h2) : DLT bw 2 1 1 p n q c f h p2 n2 q2 c2 f2 h2 := by
  have t := DLT_tr (DLT_tr (DLT_tr dn x5) d2) d3
  unfold DLT at t ⊢
  omega
theorem CHQ_case {p1 n1 q1 c1 f1 h1 : Int} {r1 : Int32} (ho : 0 ≤ o ∧ o ≤ 25) (hn : 0 ≤ n) (dn : DLT bw 3 1 1 p n q c f h (p + 1) n q c f h) (he : EXQ u0 TN SN bw σ o (p + 1) o n q c f h s wt 0 (nx1 u) v r1) (sv : ST u0 σ p1 o n1 q1 c1 f1 h1 s wt 0 v) (d2 : DLT bw 3 1 1 p1 n1 q1 c1 f1 h1 (p1 + 1) n1 q1 c1 f1 h1) (hc : CHQ u0 TN SN bw σ 1 (p1 + 1) o n1 q1 c1 f1 h1 s wt (nx1 v) x r) : EXQ u0 TN SN bw σ (o - 1) p o n q c f h s wt 0 u x r := by
  obtain ⟨a0, p1', n1', q1', c1', f1', h1', e0, -, a2, a3, a4, a5, a6, a7, a8⟩ := he
  obtain ⟨-, ⟨s1, -, s2, s3, s4, s5, s6, -⟩, -⟩ := id sv
  obtain ⟨-, ⟨t1, -, t2, t3, t4, t5, t6, -⟩, -⟩ := id a2
  obtain rfl : p1' = p1 := t1.symm.trans s1
  obtain rfl : n1' = n1 := t2.symm.trans s2
  obtain rfl : q1' = q1 := t3.symm.trans s3
  obtain rfl : c1' = c1 := t4.symm.trans s4
  obtain rfl : f1' = f1 := t5.symm.trans s5
  obtain rfl : h1' = h1 := t6.symm.trans s6
  obtain ⟨b0, p2, n2, q2, c2, f2, h2, e, b1, b2, b3, ⟨b4, b5, b6⟩, b7, b8, b9, b10⟩ := hc
  have kc : KPR σ u (nx1 u) := KPR_w0 KPR_rf (by decide)
  have kd : KPR σ v (nx1 v) := KPR_w0 KPR_rf (by decide)
  have kvx := KPR_tr kd b3
  have ku := KPR_tr (KPR_tr kc a3) kvx
  have x60 : A x 60 σ = A v 60 σ := b9
  have nn1 : n ≤ n1' := a5.2.1
  have pp1 : p + 2 ≤ p1' := by have := a5.1; omega
  have v32 : F v 32 = n1' := s2
  refine ⟨b0, p2, n2, q2, c2, f2, h2, e, b1, b2, ku, b4, by rw [b6]; exact DLT_b1 dn a5 d2 b7, ⟨by omega, b8.2.1, RTD_dn (a := n1'.toNat) (by omega) _ _ (RTD_mo _ _ _ b8.2.2.1 (by omega)), b8.2.2.2⟩, fun y => by rw [x60]; exact a7 (kvx.2.2.2.2.2.2 y), fun y1 y2 y3 => ?_⟩
  obtain ⟨mm, X, Y, g1, g2, g3, g4, g5⟩ := b10 y1 y2 y3
  obtain ⟨mm2, X2, Y2, k1, k2, k3, k4, k5⟩ := a8 (kvx.2.2.2.2.2.1 y1) (kvx.2.2.2.2.2.2 y2) y3
  have mu : mks (nx1 u) = mks u := wi_mks (by decide)
  have mv : mks (nx1 v) = mks v := wi_mks (by decide)
  have nu' : nmo σ (nx1 u) = nmo σ u := rfl
  have nv : nmo σ (nx1 v) = nmo σ v := rfl
  have nx : nmo σ x = nmo σ v := by unfold nmo; rw [x60]
  have kn := KPR_n kvx
  have kn2 := KPR_n a3
  rw [nu'] at kn2
  rw [mv, nv] at g1
  rw [mu, nu'] at k1
  have k1' := SEQ_kp k1 (fun i => Nat.le_refl _) kvx
  have g1' := SEQ_mo (lo2 := nmo σ u) (mm2 := max mm mm2) (X2 := max (X + 1) X2) (Y2 := max Y Y2) (sh2 := hlo σ x) g1 kn2.1 (Nat.le_max_left _ _) (Nat.le_max_left _ _) (Nat.le_max_left _ _) (Nat.le_refl _)
  have k1'' := SEQ_mo (lo2 := nmo σ u) (mm2 := max mm mm2) (X2 := max (X + 1) X2) (Y2 := max Y Y2) (sh2 := hlo σ x) k1' (Nat.le_refl _) (Nat.le_max_right _ _) (Nat.le_max_right _ _) (Nat.le_max_right _ _) kn.2.1
  have sq := SEQ_app k1'' g1'
  refine ⟨max mm mm2, max (X + 1) X2, max Y Y2, ?_, by omega, by omega, by omega, by omega⟩
  rw [nx]
  refine SEQ_ro sq (fun i hi => Or.inr hi) (fun i hi => ?_)
  rcases hi with hi | hi
  · refine Or.inr ?_
    rw [hi, kvx.2.1.1 29 e0 (by decide) (by omega)]
    exact a6.2.2.2
  · exact Or.inl hi
theorem DLT_b2 {p1 n1 q1 c1 f1 h1 n2 : Int} {bb : Nat} (dn : DLT bw 3 1 1 p n q c f h (p + 1) n q c f h) (x5 : DLT bw 2 1 bb (p + 1) n q c f h p1 n1 q1 c1 f1 h1) (d2 : DLT bw 3 1 1 p1 n1 q1 c1 f1 h1 (p1 + 1) n1 q1 c1 f1 h1) (hn : n1 ≤ n2 ∧ n2 ≤ n1 + 1) : DLT bw 2 1 1 p n q c f h (p1 + 1) (n2 + 1) q1 c1 f1 h1 := by
  have t := DLT_tr (DLT_tr dn x5) d2
  unfold DLT at t ⊢
  omega
set_option maxRecDepth 100000 in
theorem begin_b (tk : TKW u0 TN SN bw) (hD : 0 ≤ D ∧ D ≤ 2900) (ho : 0 ≤ o ∧ o ≤ 25) (hb : XSB u0 TN SN bw D o S.2.2.2.2.1) (hs : ST u0 σ p o n q c f h s wt 0 u) (hf : F u 67 = 0) (hm : NM TN bw 0 0 0 σ p o n q c f h s wt) (hl : LGS σ u) (hp : p < TN) : OK (fun x r => EXQ u0 TN SN bw σ (o - 1) p o n q c f h s wt 0 u x r ∨ FSM u0 TN σ (D + 2) x) (bnd (S.2.2.2.2.1 (nx1 u)) (fun u14 r14 => bnd (fm_M_needWord N u14 6) (fun u15 _ => bnd (fm_M_unbind N u15 (I (A u 60 σ))) (fun u16 _ => bnd (fm_M_node N u16 30 (u16.1 69)) (fun u17 r17 => bnd (fm_M_addRoot N u17 r17 r14) (fun u18 _ => some (u18, r17))))))) := by
  have hT := tk.1.1
  have fs := NM_fs hm (by omega)
  have e32 : F u 32 = n := hs.2.1.2.2.1
  have sc := (hs.2.2.2.1 σ (Nat.le_refl σ)).1
  have dn := DLT_1 (n := n) (q := q) (c := c) (f := f) (h := h) (m := 0) tk ⟨by omega, hp⟩ (by omega)
  rw [show n + 0 = n by omega] at dn
  have s1 := ST_nx hs (by omega)
  have kc : KPR σ u (nx1 u) := KPR_w0 KPR_rf (by decide)
  have nm1 := NM_3 (NM_dlt tk hm dn (by omega) (by omega) (by omega)) (by omega)
  have l1 : LGS σ (nx1 u) := fun z => hl (kc.2.2.2.2.2.2 z)
  refine ok_bnd.mpr (ok_mono (hb (nx1 u) σ _ _ _ _ _ _ _ _ s1 ((wi_ne (by decide)).trans hf) nm1 l1) (fun v r hv => ?_))
  have bad : ∀ (w : MS) (r : Int32) (x : Int), FSM u0 TN σ D w → r = I x → x = -1 ∨ (0 ≤ x ∧ x < 15000) → OK (fun x r => EXQ u0 TN SN bw σ (o - 1) p o n q c f h s wt 0 u x r ∨ FSM u0 TN σ (D + 2) x) (bnd (fm_M_unbind N w (I (A u 60 σ))) (fun u16 _ => bnd (fm_M_node N u16 30 (u16.1 69)) (fun u17 r17 => bnd (fm_M_addRoot N u17 r17 r) (fun u18 _ => some (u18, r17))))) := fun w r x hw hr hx => by
    refine unbind_F hw hT (by omega) (by omega) (fun x1 hx1 => ?_)
    have n0 := hx1.2.2.2.2.1
    have p0 := FSM_p hx1 hT
    refine k_node (k := 30) (t := F x1 69) rfl (by decide) I_F (by omega) (by omega) (fun v1 hv1 => ?_)
    have s9 := FSM_nd hx1 hv1.1
    rw [show D + 1 + 1 = D + 2 by omega] at s9
    rw [hr]
    rcases hx with hx | hx
    · rw [hx, show I (-1) = (-1 : Int32) from rfl, addRoot_0, bnd_so]
      exact ok_some.mpr (Or.inr s9)
    · rw [show F x1 32 = (((F x1 32).toNat : Nat) : Int) by omega, show x = ((x.toNat : Nat) : Int) by omega, addRoot_1 (by omega) (by omega), bnd_so]
      exact ok_some.mpr (Or.inr (FSM_wa (FSM_wa s9 (by decide)) (by decide)))
  rcases hv with ⟨b0, p2, n2, q2, c2, f2, h2, e, b1, b2, b3, b4, b5, b6, b7, b8⟩ | ⟨hv, x, hx, hx2⟩
  · have nm2 := NM_dlt tk nm1 b5 (by omega) (by omega) b4
    have fs2 := NM_fs nm2 (by omega)
    have e69v : F v 69 = p2 := b2.2.1.1
    have e32v : F v 32 = n2 := b2.2.1.2.2.1
    have hn2 : n ≤ n2 ∧ p + 2 ≤ p2 := ⟨b5.2.1, by have := b5.1; omega⟩
    refine k_needWord (s := 6) rfl ⟨by decide, by decide⟩ (by omega) (fun _ zz => ?_) (fun v2 h3 h4 => ?_)
    · have z2 := ST_IW b2 zz
      have ltp := tok_lt tk (by omega) (show ¬ (A u0 6 (p2).toNat = 0 ∨ A u0 6 (p2).toNat = 7) by omega)
      have de := DLT_1 (n := n2) (q := q2) (c := c2) (f := f2) (h := h2) (m := 0) tk ⟨by omega, ltp⟩ (by omega)
      rw [show n2 + 0 = n2 by omega] at de
      have s2 := ST_nx b2 (by omega)
      have kd : KPR σ v (nx1 v) := KPR_w0 KPR_rf (by decide)
      have kuv := KPR_tr kc (KPR_tr b3 kd)
      have e32n : F (nx1 v) 32 = n2 := s2.2.1.2.2.1
      refine unbind_P (SN := SN) (u := u) s2 ((wi_ne (by decide)).trans b0) kuv (by omega) (by omega) (by omega) rfl ⟨sc.1, rfl⟩ (fun y => hl (kuv.2.2.2.2.2.2 y)) (fun w nw hn sw f6 kw ub w60 tr sx => ?_)
      have e69w : F w 69 = p2 + 1 := sw.2.1.1
      have e32w : F w 32 = nw := sw.2.1.2.2.1
      refine k_node (k := 30) (t := p2 + 1) rfl (by decide) (I_F' e69w) (by omega) (by omega) (fun v1 hv1 => ?_)
      rw [e32w, b1, show nw = ((nw.toNat : Nat) : Int) by omega, addRoot_1 (by omega) (by omega), bnd_so]
      have nd := hv1.1
      have nn : NEWN v1 nw.toNat 30 := by
        have := NEWN_of hv1 (by omega)
        rw [e32w] at this
        exact this
      have v29 : A v1 29 e = -1 := by
        rw [nd.2.2.2.2 29 e (by omega), ub.2 29 e (by decide) (by omega)]
        exact b6.2.2.2
      have ea : adr v1 nw.toNat e = wa v1 28 nw.toNat e := by
        unfold adr
        rw [wa_self (k := 29) (i := e) (by rw [nn.2.2.2.1]; exact v29)]
      have re : RG ((e : Nat) : Int) := ⟨by omega, by omega⟩
      rw [ea]
      have sx1 : ST u0 σ (p2 + 1) o (nw + 1) q2 c2 f2 h2 s wt 0 (wa v1 28 nw.toNat e) := ST_wa (ST_nd sw nd (by omega) (by omega) (fun z => by omega)) (by decide)
      have kx : KPR σ w (wa v1 28 nw.toNat e) := KPR_wn (KPR_nd KPR_rf nd (by omega)) (by decide) (by omega)
      have x28 : A (wa v1 28 nw.toNat e) 28 nw.toNat = e := wa_eq re
      have xr : ∀ r, r ≠ 28 → A (wa v1 28 nw.toNat e) r nw.toNat = A v1 r nw.toNat := fun r hr => wa_rne hr
      have f7 : F (wa v1 28 nw.toNat e) 67 = 0 := by rw [F_wa]; exact (nd.1.F (by decide)).trans f6
      have on : ONE (mks w) (mks (wa v1 28 nw.toNat e)) nw.toNat := by
        have := ONE_nd nd (by omega)
        rw [e32w] at this
        exact this
      have a60 : A (wa v1 28 nw.toNat e) 60 σ = A u 60 σ := by rw [wa_rne (by decide), nd.1.A (by decide)]; exact w60
      generalize wa v1 28 nw.toNat e = X at *
      have kuX := KPR_tr kw kx
      have rtx : RTD X (26 - (o + 1)).toNat n.toNat e := by
        refine RTD_fr _ _ b6.2.2.1 ?_ (fun r i hr h1 h2 => ?_)
        · rw [kx.2.1.1 28 e (by decide) (by omega), ub.2 28 e (by decide) (by omega)]; rfl
        · have : ∀ r, r ∈ [28, 29] → r ∈ [23, 24, 25, 26, 27, 28, 29, 30, 31] := by decide
          rw [kx.2.1.1 r i (this r hr) (by omega), ub.2 r i (this r hr) (by omega)]; rfl
      have x29e : A X 29 e = -1 := by
        rw [kx.2.1.1 29 e (by decide) (by omega), ub.2 29 e (by decide) (by omega)]
        exact b6.2.2.2
      refine ok_some.mpr (Or.inl ⟨f7, p2 + 1, nw + 1, q2, c2, f2, h2, nw.toNat, rfl, sx1, kuX, by omega, ?_, ⟨by omega, by omega, ?_, ?_⟩, fun y => by rw [a60]; exact hl (kuX.2.2.2.2.2.2 y), fun y1 y2 y3 => ?_⟩)
      · have nu0 : nu u0 (p2 + 1).toNat = 0 := nu_wd (Or.inl z2.1) (by omega)
        rw [nu0]
        exact DLT_b2 dn b5 de hn
      · refine RTD_mo ((26 - (o + 1)).toNat + 1) _ _ ⟨by omega, [e], ⟨x28, by omega, x29e⟩, fun r hr => ?_⟩ (by omega)
        rw [List.mem_singleton.mp hr]; exact rtx
      · rw [xr 29 (by decide)]; exact nn.2.2.2.2.1
      · have y1' := kx.2.2.2.2.2.1 y1
        have y2' := kx.2.2.2.2.2.2 y2
        have w72 : F w 72 = F v 72 := (ub.1.F (by decide)).trans (wi_ne (by decide))
        have w66 : F w 66 = F v 66 := (ub.1.F (by decide)).trans (wi_ne (by decide))
        obtain ⟨mm, X1, Y, g1, g2, g3, g4, g5⟩ := b8 (by rw [← w72]; exact y1') (by rw [← w66]; exact y2') y3
        have mu : mks (nx1 u) = mks u := wi_mks (by decide)
        have mv : mks (nx1 v) = mks v := wi_mks (by decide)
        have nv : nmo σ (nx1 v) = nmo σ v := rfl
        have hv0 : hlo σ (nx1 v) = hlo σ v := rfl
        have nu' : nmo σ (nx1 u) = nmo σ u := rfl
        rw [mu, nu'] at g1
        have g1' := SEQ_kp g1 (fun i => Nat.le_refl _) kd
        rw [← mv, ← nv, ← hv0] at g1'
        have g6 := sx _ _ _ _ _ _ _ (show ((nmo σ u : Nat) : Int) ≤ A u 60 σ by unfold nmo; omega) g1'
        have g7 := SEQ_kp g6 (fun i => Nat.le_refl _) kx
        have kn := KPR_n kx
        have eB : (A u 60 σ).toNat = nmo σ u := rfl
        rw [eB] at g7
        have g8 := SEQ_join (w := X) (R := fun i => i = e) on ⟨by rw [xr 23 (by decide)]; exact nn.1, by rw [xr 24 (by decide)]; exact nn.2.1, by rw [xr 24 (by decide)]; exact nn.2.2.1, by rw [xr 29 (by decide)]; exact nn.2.2.2.2.1⟩ (Or.inr ⟨e, x28, rfl⟩) (SEQ_mo g7 (Nat.le_refl _) (Nat.le_refl _) (Nat.le_refl _) (Nat.le_refl _) kn.2.1) (fun i hi => by rw [hi]; exact x29e)
        have nx : nmo σ X = nmo σ u := by unfold nmo; rw [a60]
        have w64 : A w 64 σ = A v 64 σ := ub.1.A (by decide)
        refine ⟨mm, X1, Y, ?_, g2, by omega, by omega, by omega⟩
        rw [nx]
        exact g8
    · have s3 : FSM u0 TN σ D v2 := FSM_of (ST_67 b2 h3) (by omega) (by omega) fs2.1 h4
      exact bad v2 r e s3 b1 (Or.inr (by omega))
  · have n0 := hv.2.2.2.2.1
    refine k_needWord (s := 6) rfl ⟨by decide, by decide⟩ (FSM_p hv hT) (fun z _ => absurd z hv.2.1) (fun v2 h3 h4 => ?_)
    refine bad v2 r x (FSM_67 hv h3 h4) hx ?_
    rcases hx2 with z | z
    · exact Or.inl z
    · exact Or.inr (by omega)
def XPN (fn : MS → Int32 → Int32 → Option (MS × Int32)) : Prop := ∀ (u : MS) (a b : Int32), F u 67 ≠ 0 → fn u a b = some (u, -1)
theorem choice_F (hT : TN ≤ 4000) (hD : D ≤ 2990) (hpn : XPN S.2.2.1) (hs : FSM u0 TN σ D v) (ht : 0 ≤ t ∧ t < 4002) : OK (fun x _ => FSM u0 TN σ (D + 2) x) (fb_M_block_160 N S () v (I t) v2 3 21) := by
  have n0 := hs.2.2.2.2.1
  have hj : (F v 32).toNat < 16000 := by omega
  have z1 : ∀ (w : MS) (k i : Nat), upA w k (upd (w.2.2.1 k) i (-1)) = wa w k i (-1) := fun _ _ _ => rfl
  unfold fb_M_block_160
  refine k_node (k := 21) (t := t) rfl (by decide) rfl ht (by omega) (fun v1 hv1 => ?_)
  rw [show F v 32 = (((F v 32).toNat : Nat) : Int) by omega]
  refine k_in (k := 27) (n := 16000) rfl (by decide) (by omega) (ok_lt.mpr ?_)
  rw [I_of v2, wa_e]
  have s1 : FSM u0 TN σ (D + 1) (wa v1 27 (I (((F v 32).toNat : Nat) : Int)).toNatClampNeg v2.toInt) := FSM_wa (FSM_nd hs hv1.1) (by decide)
  generalize wa v1 27 (I (((F v 32).toNat : Nat) : Int)).toNatClampNeg v2.toInt = W at *
  show OK _ (fb_M_block_186 N S () W (I (((F v 32).toNat : Nat) : Int)) 0)
  unfold fb_M_block_186
  rw [hpn W _ _ s1.2.1, bnd_so]
  refine k_needWord (s := 6) rfl ⟨by decide, by decide⟩ (FSM_p s1 hT) (fun z _ => absurd z s1.2.1) (fun v2 h3 h4 => ?_)
  refine k_in (k := 25) (n := 16000) rfl (by decide) (by omega) (ok_lt.mpr ?_)
  rw [z1]
  have s2 : FSM u0 TN σ (D + 1) (wa v2 25 (I (((F v 32).toNat : Nat) : Int)).toNatClampNeg (-1)) := FSM_wa (FSM_67 s1 h3 h4) (by decide)
  have := join_F (N := N) (S := S) (R0 := (F v 32).toNat) hT (by omega) s2 (by omega)
  rw [show D + 1 + 1 = D + 2 by omega] at this
  exact this
theorem block_ok (tk : TKW u0 TN SN bw) (hD : 0 ≤ D ∧ D ≤ 2890) (ho : 0 ≤ o ∧ o ≤ 25) (hpt : XPT u0 TN SN bw D o S.2.2.1) (hpn : XPN S.2.2.1) (hrc : XRC u0 TN SN bw D o S.2.2.2.1) (hx : XSP u0 TN SN bw D 3 0 0 0 o S.2.2.2.2.2.2.2.2.2.2.2.2.2.1) (hb : XSB u0 TN SN bw D o S.2.2.2.2.1) : XBL u0 TN SN bw (D + 10) o (fun u => TSO u = 3) (fm_M_block N S) := by
  intro u σ p n q c f h s wt hs hf htk hm1 hl
  have hT := tk.1.1
  have hm := NM_j hm1
  have fs := NM_fs hm (by omega)
  have e69 : F u 69 = p := hs.2.1.1
  have e65 : F u 65 = σ := hs.2.1.2.2.2.2.2.2.2.2.2.2.2
  have htk' : A u 6 (F u 69).toNat = 3 := htk
  rw [e69, ST_A hs (by decide)] at htk'
  have ltp := tok_lt tk (by omega) (show ¬ (A u0 6 (p).toNat = 0 ∨ A u0 6 (p).toNat = 7) by omega)
  have tv := (tk.2.1 p.toNat (by omega)).2.2.2.2.1 htk'
  have a7 : A u 7 p.toNat = A u0 7 p.toNat := ST_A hs (by decide)
  have dn := DLT_1 (n := n) (q := q) (c := c) (f := f) (h := h) (m := 0) tk ⟨by omega, ltp⟩ (by omega)
  rw [show n + 0 = n by omega] at dn
  have s1 := ST_nx hs (by omega)
  have kc : KPR σ u (nx1 u) := KPR_w0 KPR_rf (by decide)
  have nm1 := NM_dlt tk hm dn (by omega) (by omega) (by omega)
  have l1 : LGS σ (nx1 u) := fun z => hl (kc.2.2.2.2.2.2 z)
  have f1 : F (nx1 u) 67 = 0 := (wi_ne (by decide)).trans hf
  have hq : 2 * q ≤ p ∧ n ≤ 3 * p := ⟨hm.2.2.2.1.2, hm.2.2.1.2⟩
  have sc := (hs.2.2.2.1 σ (Nat.le_refl σ)).1
  have y19 : u.2.2.1 60 (u.1 65).toNatClampNeg = I (A u 60 σ) := by
    rw [tn_F, e65]; exact I_A
  have y20 : u.2.2.1 7 (u.1 69).toNatClampNeg = I (A u0 7 p.toNat) := by
    rw [tn_F, e69]; exact I_A' a7
  have ni : A u0 7 p.toNat ≠ 9 → ¬ IW u 9 := fun z y => z (by have := ST_IW hs y; exact this.2)
  have exit : ∀ {x r} {d : Int}, A u0 7 p.toNat ≠ 9 → d ≤ 10 → EXQ u0 TN SN bw σ (o - 1) p o n q c f h s wt 0 u x r ∨ FSM u0 TN σ (D + d) x → (EXQ u0 TN SN bw σ (o - 1) p o n q c f h s wt 0 u x r ∧ ¬ IW u 9) ∨ FSM u0 TN σ (D + 10) x := fun h9 hd y => by
    rcases y with y | y
    · exact Or.inl ⟨y, ni h9⟩
    · exact Or.inr (FSM_mo y (by omega))
  have go : A u0 7 p.toNat = 2 ∨ A u0 7 p.toNat = 3 ∨ A u0 7 p.toNat = 8 ∨ A u0 7 p.toNat = 12 → OK (fun v r => (EXQ u0 TN SN bw σ (o - 1) p o n q c f h s wt 0 u v r ∧ ¬ IW u 9) ∨ FSM u0 TN σ (D + 10) v) (fb_M_block_49 N S () u (I p) (I (A u 60 σ)) (I (A u0 7 p.toNat))) := fun hv => by
    unfold fb_M_block_49
    rw [nx1_e]
    refine ok_lt.mpr ?_
    rcases hv with hv | hv | hv | hv
    · rw [hv]
      show OK _ (bnd (S.2.2.2.2.1 (nx1 u)) (fun u14 r14 => bnd (fm_M_needWord N u14 6) (fun u15 _ => bnd (fm_M_unbind N u15 (I (A u 60 σ))) (fun u16 _ => bnd (fm_M_node N u16 30 (u16.1 69)) (fun u17 r17 => bnd (fm_M_addRoot N u17 r17 r14) (fun u18 _ => some (u18, r17)))))))
      exact ok_mono (begin_b tk (by omega) ho hb hs hf hm hl ltp) (fun x r hx => exit (by omega) (by omega) hx)
    · rw [hv]
      show OK _ (bnd (S.2.2.2.2.2.2.2.2.2.2.2.2.2.1 (nx1 u)) (fun u11 r11 => bnd (fm_M_needWord N u11 10) (fun u12 _ => ck (inb (u12.1 65) (ln 60)) (lt (u12.2.2.1 60 (u12.1 65).toNatClampNeg) (fun y13 => fb_M_block_160 N S () u12 (I p) y13 3 21)))))
      refine ok_bnd.mpr (ok_mono (hx (nx1 u) σ _ _ _ _ _ _ _ _ _ s1 f1 (NM_3 nm1 (by omega)) l1) (fun v r hv => ?_))
      have caseF : ∀ v2, FSM u0 TN σ D v2 → OK (fun v r => (EXQ u0 TN SN bw σ (o - 1) p o n q c f h s wt 0 u v r ∧ ¬ IW u 9) ∨ FSM u0 TN σ (D + 10) v) (ck (inb (v2.1 65) (ln 60)) (lt (v2.2.2.1 60 (v2.1 65).toNatClampNeg) (fun y13 => fb_M_block_160 N S () v2 (I p) y13 3 21))) := fun v2 s3 => by
        have e65v : F v2 65 = σ := s3.2.2.2.1
        refine k_at (k := 60) (n := 27) rfl (by decide) (by omega) (ok_lt.mpr ?_)
        exact ok_mono (choice_F hT (by omega) hpn s3 (by omega)) (fun x r hx => Or.inr (FSM_mo hx (by omega)))
      rcases hv with he | ⟨hv, -⟩
      · rw [show o - 0 = o by omega] at he
        obtain ⟨b0, p2, n2, q2, c2, f2, h2, e0, b1, b2, b3, b4, b5, b6, b7, b8⟩ := id he
        have nm2 := NM_dlt tk nm1 b5 (by omega) (by omega) b4
        have fs2 := NM_fs nm2 (by omega)
        have e69v : F v 69 = p2 := b2.2.1.1
        refine k_needWord (s := 10) rfl ⟨by decide, by decide⟩ (by omega) (fun _ zz => ?_) (fun v2 h3 h4 => caseF v2 (FSM_of (ST_67 b2 h3) (by omega) (by omega) fs2.1 h4))
        have z2 := ST_IW b2 zz
        have ltp2 := tok_lt tk (by omega) (show ¬ (A u0 6 (p2).toNat = 0 ∨ A u0 6 (p2).toNat = 7) by omega)
        have de := DLT_1 (n := n2) (q := q2) (c := c2) (f := f2) (h := h2) (m := 0) tk ⟨by omega, ltp2⟩ (by omega)
        rw [show n2 + 0 = n2 by omega] at de
        have s2 := ST_nx b2 (by omega)
        have nm3 := NM_dlt tk nm2 de (by omega) (by omega) (by omega)
        have kd : KPR σ v (nx1 v) := KPR_w0 KPR_rf (by decide)
        have e65v : F (nx1 v) 65 = σ := s2.2.1.2.2.2.2.2.2.2.2.2.2.2
        have y13 : (nx1 v).2.2.1 60 ((nx1 v).1 65).toNatClampNeg = I (A (nx1 v) 60 σ) := by
          rw [tn_F, e65v]; exact I_A
        refine k_at (k := 60) (n := 27) rfl (by decide) (by omega) (ok_lt.mpr ?_)
        rw [y13]
        have hq2 : 2 * q2 ≤ p2 ∧ n2 ≤ 3 * p2 := ⟨nm2.2.2.2.1.2, nm2.2.2.1.2⟩
        refine ok_mono (choice_ok (many := 1) (kk := 21) tk (by omega) ho hpt s2 ((wi_ne (by decide)).trans b0) nm3 (fun y => b7 (kd.2.2.2.2.2.2 y)) (by omega) (by omega) rfl (Or.inr ⟨rfl, rfl, rfl⟩)) (fun x r hx => exit (d := 2) (by omega) (by omega) ?_)
        rcases hx with y | y
        · exact Or.inl (CHQ_case ho (by omega) dn he b2 de y)
        · exact Or.inr y
      · refine k_needWord (s := 10) rfl ⟨by decide, by decide⟩ (FSM_p hv hT) (fun z _ => absurd z hv.2.1) (fun v2 h3 h4 => caseF v2 (FSM_67 hv h3 h4))
    · rw [hv]
      show OK _ (fb_M_block_160 N S () (nx1 u) (I p) (I (A (nx1 u) 60 σ)) 8 31)
      refine ok_mono (choice_ok (many := 0) (kk := 31) tk (by omega) ho hpt s1 f1 nm1 l1 (by omega) (by omega) rfl (Or.inl ⟨rfl, rfl, rfl⟩)) (fun x r hx => exit (d := 2) (by omega) (by omega) ?_)
      rcases hx with y | y
      · exact Or.inl (CHQ_EXQ ho (by omega) hs hl dn y)
      · exact Or.inr y
    · rw [hv]
      show OK _ (bnd (S.2.2.2.1 (nx1 u) (I p) (I (A (nx1 u) 60 σ))) (fun u9 r9 => some (u9, r9)))
      refine ok_bnd.mpr (ok_mono (hrc (nx1 u) σ _ _ _ _ _ _ _ _ p s1 f1 nm1 l1 (by omega)) (fun x r hx => ok_some.mpr (exit (d := 0) (by omega) (by omega) ?_)))
      rcases hx with y | y
      · exact Or.inl (CHQ_EXQ ho (by omega) hs hl dn y)
      · exact Or.inr (FSM_mo y (by omega))
  unfold fm_M_block fb_M_block_0
  refine k_at (k := 60) (n := 27) rfl (by decide) (by omega) (ok_lt.mpr (k_at (k := 7) (n := 4002) rfl (by decide) (by omega) (ok_lt.mpr ?_)))
  rw [y19, y20]
  refine k_eq (y := 2) (x := A u0 7 p.toNat) ⟨by omega, by omega⟩ ⟨by decide, by decide⟩ (fun z => go (Or.inl z)) (fun z2 => ?_)
  refine k_eq (y := 3) (x := A u0 7 p.toNat) ⟨by omega, by omega⟩ ⟨by decide, by decide⟩ (fun z => go (Or.inr (Or.inl z))) (fun z3 => ?_)
  refine k_eq (y := 8) (x := A u0 7 p.toNat) ⟨by omega, by omega⟩ ⟨by decide, by decide⟩ (fun z => go (Or.inr (Or.inr (Or.inl z)))) (fun z4 => ?_)
  refine k_eq (y := 12) (x := A u0 7 p.toNat) ⟨by omega, by omega⟩ ⟨by decide, by decide⟩ (fun z => go (Or.inr (Or.inr (Or.inr z)))) (fun z5 => ?_)
  refine k_wrong (s := 2) rfl ⟨by decide, by decide⟩ (by decide) (by omega) (fun v3 h1 h2 => ok_some.mpr (Or.inr ?_))
  exact FSM_of (ST_67 hs h1) (by omega) (by omega) fs.1 h2
end
end
section
def HLP (σ1 : Nat) (u v : MS) (i : Nat) : Prop := FR [58] [] [57] [] u v ∧ F v 58 = F u 58 + i ∧ (∀ t, t < i → A v 57 ((F u 58).toNat + t) = A u 62 (1400 * σ1 + t)) ∧ ∀ t : Nat, (t : Int) < F u 58 → A v 57 t = A u 57 t
def fnE (N : Nat) (v1 v2 v3 : Int32) (u : MS) : Option (MS × Int32) := lt (upI u 65 ((u.1 65) - 1)) (fun w1 => ck (inb v3 (ln 25)) (lt (upA w1 25 (upd (w1.2.2.1 25) v3.toNatClampNeg (w1.1 32))) (fun w2 => bnd (fm_M_node N w2 14 v1) (fun u3 r3 => ck (inb r3 (ln 25)) (lt (upA u3 25 (upd (u3.2.2.1 25) r3.toNatClampNeg v2)) (fun w4 => some (w4, r3)))))))
section
variable {Q : MS → Int32 → Prop} {u0 u v w x V X : MS} {N σ1 e j k n0 R0 : Nat} {t f B hf : Int} {r v1 v2 v3 v4 : Int32} {S : SG_M_behind}
theorem fnE_ok (h65 : F u 65 = σ1) (hσ : 1 ≤ σ1 ∧ σ1 ≤ 26) (hj : j < 16000) (hn : 0 ≤ F u 32 ∧ F u 32 < 16000) (ht : 0 ≤ t ∧ t < 4002) (a : ∀ v, NDV (wa (wi u 65 ((σ1 : Int) - 1)) 25 j (F u 32)) v 14 t → Q (wa v 25 (F u 32).toNat f) (I (F u 32))) : OK Q (fnE N (I t) (I f) (I j) u) := by
  unfold fnE
  have e : u.1 65 - 1 = I ((σ1 : Int) - 1) := by rw [I_F' h65, lit1q, I_sub]
  rw [e, wi_e]
  refine ok_lt.mpr (k_in (k := 25) (n := 16000) rfl (by decide) (by omega) (ok_lt.mpr ?_))
  have e32 : F (wi u 65 ((σ1 : Int) - 1)) 32 = F u 32 := wi_ne (by decide)
  rw [I_tn (x := (j : Int)) (by omega) (by omega), I_F' e32, wa_e, show ((j : Nat) : Int).toNat = j by omega]
  have e32' : F (wa (wi u 65 ((σ1 : Int) - 1)) 25 j (F u 32)) 32 = F u 32 := by rw [F_wa]; exact e32
  refine k_node (k := 14) (t := t) rfl (by decide) rfl ht (by omega) (fun v hv => ?_)
  rw [e32']
  refine k_in (k := 25) (n := 16000) rfl (by decide) (by omega) (ok_lt.mpr ?_)
  rw [I_tn (x := F u 32) (by omega) (by omega), wa_e]
  exact ok_some.mpr (a v hv)
theorem held_loop (h65 : F u 65 = σ1) (hσ : 1 ≤ σ1 ∧ σ1 ≤ 26) (h63 : A u 63 σ1 = hf) (hf0 : 0 ≤ hf ∧ hf ≤ 60) (h58 : 0 ≤ F u 58 ∧ F u 58 + 60 ≤ 24000) (a : ∀ v, HLP σ1 u v hf.toNat → OK Q (fnE N v1 v2 v3 v)) : ∀ (m i : Nat) (v : MS), HLP σ1 u v i → (i : Int) ≤ hf → hf - i < m → OK Q (gg_M_fun N S m v v1 v2 v3 (I i)) := by
  intro m
  induction m with
  | zero => intro i v _ h1 h2; omega
  | succ m ih =>
    intro i v hv h1 h2
    obtain ⟨b1, b2, b3, b4⟩ := hv
    have v65 : F v 65 = σ1 := (b1.F (by decide)).trans h65
    have v63 : A v 63 σ1 = hf := (b1.A (by decide)).trans h63
    show OK _ (fb_M_fun_257 N S (gg_M_fun N S m) v v1 v2 v3 (I i))
    unfold fb_M_fun_257
    refine k_at (k := 63) (n := 27) rfl (by decide) (by omega) ?_
    have y63 : v.2.2.1 63 (v.1 65).toNatClampNeg = I hf := by
      rw [tn_F, v65, show ((σ1 : Nat) : Int).toNat = σ1 by omega]; exact I_A' v63
    rw [y63]
    refine k_le (x := hf) (y := (i : Int)) ⟨by omega, by omega⟩ ⟨by omega, by omega⟩ (fun y => ?_) (fun y => ?_)
    · obtain rfl : i = hf.toNat := by omega
      exact a v ⟨b1, b2, b3, b4⟩
    · have e62 : (1400 : Int32) * v.1 65 + I i = I (1400 * (σ1 : Int) + i) := by
        rw [I_F' v65, show (1400 : Int32) = I 1400 from rfl, I_mul, I_add]
      rw [e62]
      refine k_in (k := 62) (n := 37800) rfl (by decide) (by omega) (k_at (k := 57) (n := 24000) rfl (by decide) (by omega) (ok_lt.mpr (ok_lt.mpr ?_)))
      have e1 : (I (1400 * (σ1 : Int) + i)).toNatClampNeg = 1400 * σ1 + i := by rw [I_tn (by omega) (by omega)]; omega
      have e2 : v.2.2.1 62 (1400 * σ1 + i) = I (A v 62 (1400 * σ1 + i)) := I_A
      rw [e1, e2, tn_F, wa_e]
      have f58 : (wa v 57 (F v 58).toNat (A v 62 (1400 * σ1 + i))).1 58 + 1 = I (F v 58 + 1) := by
        rw [I_F (k := 58), F_wa, lit1q, I_add]
      rw [f58, wi_e, show (I ((i : Nat) : Int) + 1 : Int32) = I ((i + 1 : Nat) : Int) from by rw [lit1q, I_add]; rfl]
      refine ih (i + 1) _ ⟨?_, ?_, fun t ht => ?_, fun t ht => ?_⟩ (by omega) (by omega)
      · exact FR.wi (FR.wa b1 (by decide)) (by decide)
      · rw [wi_eq ⟨by omega, by omega⟩]; omega
      · show A (wa v 57 (F v 58).toNat (A v 62 (1400 * σ1 + i))) 57 ((F u 58).toNat + t) = _
        by_cases z : t = i
        · rw [z, show (F u 58).toNat + i = (F v 58).toNat by omega, wa_eq (ARG1 v 62 _)]
          exact b1.A (by decide)
        · rw [wa_ne (by omega)]; exact b3 t (by omega)
      · show A (wa v 57 (F v 58).toNat (A v 62 (1400 * σ1 + i))) 57 t = _
        rw [wa_ne (by omega)]; exact b4 t ht
theorem f221_ok {c : Int} (hN : 100 ≤ N) (h65 : F u 65 = σ1) (hσ : 1 ≤ σ1 ∧ σ1 ≤ 26) (h63 : A u 63 σ1 = hf) (hf0 : 0 ≤ hf ∧ hf ≤ 60) (h58 : 0 ≤ F u 58 ∧ F u 58 + 60 ≤ 24000) (hff : 0 ≤ f ∧ f < 1400) (hj : j < 16000) (hn : 0 ≤ F u 32 ∧ F u 32 < 16000) (ht : 0 ≤ t ∧ t < 4002) (a : ∀ y3 v, HLP σ1 (wa (wa (wa u 53 f.toNat c) 54 f.toNat hf) 55 f.toNat (F u 58)) y3 hf.toNat → NDV (wa (wi y3 65 ((σ1 : Int) - 1)) 25 j (F u 32)) v 14 t → Q (wa v 25 (F u 32).toNat f) (I (F u 32))) : OK Q (fb_M_fun_221 N S (gg_M_fun N S N) u (I t) (I f) (I j) (I c)) := by
  unfold fb_M_fun_221
  refine k_in (k := 53) (n := 1400) rfl (by decide) hff (ok_lt.mpr ?_)
  rw [I_tn (x := f) (by omega) (by omega), wa_e]
  have e65 : F (wa u 53 f.toNat c) 65 = σ1 := by rw [F_wa]; exact h65
  refine k_at (k := 63) (n := 27) rfl (by decide) (by omega) (k_in (k := 54) (n := 1400) rfl (by decide) hff (ok_lt.mpr ?_))
  have y63 : (wa u 53 f.toNat c).2.2.1 63 ((wa u 53 f.toNat c).1 65).toNatClampNeg = I hf := by
    rw [tn_F, e65, show ((σ1 : Nat) : Int).toNat = σ1 by omega]
    exact I_A' (by rw [wa_rne (by decide)]; exact h63)
  rw [y63, wa_e]
  refine k_in (k := 55) (n := 1400) rfl (by decide) hff (ok_lt.mpr ?_)
  have e58 : F (wa (wa u 53 f.toNat c) 54 f.toNat hf) 58 = F u 58 := by rw [F_wa, F_wa]
  rw [I_F' e58, wa_e]
  have E65 : F (wa (wa (wa u 53 f.toNat c) 54 f.toNat hf) 55 f.toNat (F u 58)) 65 = σ1 := by rw [F_wa, F_wa, F_wa]; exact h65
  have E63 : A (wa (wa (wa u 53 f.toNat c) 54 f.toNat hf) 55 f.toNat (F u 58)) 63 σ1 = hf := by rw [wa_rne (by decide), wa_rne (by decide), wa_rne (by decide)]; exact h63
  have E58 : F (wa (wa (wa u 53 f.toNat c) 54 f.toNat hf) 55 f.toNat (F u 58)) 58 = F u 58 := by rw [F_wa, F_wa, F_wa]
  have E32 : F (wa (wa (wa u 53 f.toNat c) 54 f.toNat hf) 55 f.toNat (F u 58)) 32 = F u 32 := by rw [F_wa, F_wa, F_wa]
  refine held_loop (hf := hf) E65 hσ E63 hf0 (by omega) (fun v hv => ?_) N 0 _ ⟨FR.rf, by omega, fun t h => by omega, fun t _ => rfl⟩ (by omega) (by omega)
  have v65 : F v 65 = σ1 := (hv.1.F (by decide)).trans E65
  have v32 : F v 32 = F u 32 := (hv.1.F (by decide)).trans E32
  refine fnE_ok v65 hσ hj (by omega) ht (fun w hw => ?_)
  rw [v32] at hw ⊢
  exact a v w hv hw
end
end
section
def scU (u : MS) (σ : Nat) : MS := wa (wa (wa (wi u 65 ((σ : Int) + 1)) 60 (σ + 1) 0) 63 (σ + 1) 0) 64 (σ + 1) 0
section
variable {u0 u v w x : MS} {σ TN : Nat} {bw : Nat → Nat} {p o n q c f h s wt g d y : Int}
theorem scU_A {r i : Nat} (h : (r ≠ 60 ∧ r ≠ 63 ∧ r ≠ 64) ∨ i ≠ σ + 1) : A (scU u σ) r i = A u r i := by
  unfold scU
  rcases h with h | h
  · rw [wa_rne h.2.2, wa_rne h.2.1, wa_rne h.1]; rfl
  · rw [wa_ne h, wa_ne h, wa_ne h]; rfl
theorem scU_F {k : Nat} (h : k ≠ 65) : F (scU u σ) k = F u k := by
  unfold scU; rw [F_wa, F_wa, F_wa]; exact wi_ne h
theorem scU_60 : A (scU u σ) 60 (σ + 1) = 0 := by
  unfold scU; rw [wa_rne (by decide), wa_rne (by decide)]; exact wa_eq ⟨by decide, by decide⟩
theorem scU_63 : A (scU u σ) 63 (σ + 1) = 0 := by
  unfold scU; rw [wa_rne (by decide)]; exact wa_eq ⟨by decide, by decide⟩
theorem scU_64 : A (scU u σ) 64 (σ + 1) = 0 := by
  unfold scU; exact wa_eq ⟨by decide, by decide⟩
theorem scU_FR : FR [65] [] [60, 63, 64] [] u (scU u σ) := by
  unfold scU
  exact FR.wa (FR.wa (FR.wa (FR.wi FR.rf (by decide)) (by decide)) (by decide)) (by decide)
theorem ST_up (hs : ST u0 σ p o n q c f h s wt g u) (hσ : σ ≤ 100) : ST u0 (σ + 1) p o n q c f h s wt g (scU u σ) := by
  obtain ⟨b1, e, b2, b6, b7, b8⟩ := hs
  have fr := scU_FR (u := u) (σ := σ)
  have F5 : F (scU u σ) 65 = ((σ + 1 : Nat) : Int) := by
    unfold scU; rw [F_wa, F_wa, F_wa, wi_eq ⟨by omega, by omega⟩]; omega
  have ef : ∀ k, k ≠ 65 → F (scU u σ) k = F u k := fun k hk => scU_F hk
  refine ⟨FR.tr b1 (FRP fr (by decide) (by decide) (by decide)), ?_, ?_, ?_, K44_fr b7 fr (by decide), NGD_fr b8 fr (by decide) (by decide)⟩
  · rw [F5, ef 69 (by decide), ef 70 (by decide), ef 32 (by decide), ef 39 (by decide), ef 46 (by decide), ef 56 (by decide), ef 58 (by decide), ef 75 (by decide), ef 77 (by decide), ef 83 (by decide), ef 73 (by decide)]
    obtain ⟨e1, e2, e3, e4, e5, e6, e7, e8, e9, e10, e11, -⟩ := e
    exact ⟨e1, e2, e3, e4, e5, e6, e7, e8, e9, e10, e11, rfl⟩
  · rw [ef 71 (by decide), ef 66 (by decide)]; exact b2
  · intro s hs
    by_cases z : s = σ + 1
    · subst z
      rw [scU_60, scU_63, scU_64]
      exact ⟨⟨by omega, by omega, by omega, by omega⟩, fun i hi => by omega, fun z => by omega, fun i hi => by omega⟩
    · have hs' : s ≤ σ := by omega
      obtain ⟨c1, c2, c3, c4⟩ := b6 s hs'
      rw [scU_A (Or.inr z), scU_A (Or.inr z), scU_A (Or.inr z)]
      refine ⟨c1, fun i hi => ?_, c3, fun i hi hs0 => ?_⟩
      · rw [scU_A (Or.inl (by decide))]
        obtain ⟨d1, d2, d3⟩ := c2 i hi
        refine ⟨d1, d2, fun j hj => ?_⟩
        rw [scU_A (Or.inl (by decide))]
        exact d3 j hj
      · rw [scU_A (Or.inl (by decide)), scU_A (Or.inr (by omega)), scU_A (Or.inr (by omega))]
        exact c4 i hi hs0
theorem ST_dn (hs : ST u0 (σ + 1) p o n q c f h s wt g u) (hσ : σ ≤ 100) : ST u0 σ p o n q c f h s wt g (wi u 65 σ) := by
  obtain ⟨b1, e, b2, b6, b7, b8⟩ := hs
  have fr : FR [65] [] [] [] u (wi u 65 σ) := FR.wi FR.rf (by decide)
  have F5 : F (wi u 65 σ) 65 = σ := wi_eq ⟨by omega, by omega⟩
  have ef : ∀ k, k ≠ 65 → F (wi u 65 σ) k = F u k := fun k hk => wi_ne hk
  refine ⟨FR.tr b1 (FRP fr (by decide) (by decide) (by decide)), ?_, ?_, fun s hs => b6 s (by omega), K44_fr b7 fr (by decide), NGD_fr b8 fr (by decide) (by decide)⟩
  · rw [F5, ef 69 (by decide), ef 70 (by decide), ef 32 (by decide), ef 39 (by decide), ef 46 (by decide), ef 56 (by decide), ef 58 (by decide), ef 75 (by decide), ef 77 (by decide), ef 83 (by decide), ef 73 (by decide)]
    obtain ⟨e1, e2, e3, e4, e5, e6, e7, e8, e9, e10, e11, -⟩ := e
    exact ⟨e1, e2, e3, e4, e5, e6, e7, e8, e9, e10, e11, rfl⟩
  · rw [ef 71 (by decide), ef 66 (by decide)]; exact b2
theorem KPR_up (hσ : σ ≤ 100) : KPR σ u (scU u σ) := by
  have ef : ∀ k, k ≠ 65 → F (scU u σ) k = F u k := fun k hk => scU_F hk
  have m1 : ∀ r, r ∈ [23, 24, 25, 26, 27, 28, 29, 30, 31] → r ≠ 60 ∧ r ≠ 63 ∧ r ≠ 64 := by decide
  have m2 : ∀ r, r ∈ [33, 35, 36, 37, 38] → r ≠ 60 ∧ r ≠ 63 ∧ r ≠ 64 := by decide
  have m3 : ∀ r, r ∈ [40, 41, 42, 43, 45] → r ≠ 60 ∧ r ≠ 63 ∧ r ≠ 64 := by decide
  have m4 : ∀ r, r ∈ [53, 54, 55] → r ≠ 60 ∧ r ≠ 63 ∧ r ≠ 64 := by decide
  have m5 : ∀ r, r ∈ [61, 62] → r ≠ 60 ∧ r ≠ 63 ∧ r ≠ 64 := by decide
  have m6 : ∀ r, r ∈ [79, 80, 81, 82] → r ≠ 60 ∧ r ≠ 63 ∧ r ≠ 64 := by decide
  refine ⟨FRP scU_FR (by decide) (by decide) (by decide), ⟨fun r i h1 _ => scU_A (Or.inl (m1 r h1)), fun r i h1 _ => scU_A (Or.inl (m2 r h1)), fun r i h1 _ => scU_A (Or.inl (m3 r h1)), fun r i h1 _ => scU_A (Or.inl (m4 r h1)), fun i _ => scU_A (Or.inl (by decide))⟩, ⟨fun s i _ _ => scU_A (Or.inl (by decide)), fun r s i h0 _ _ => scU_A (Or.inl (m5 r h0)), fun s h1 => scU_A (Or.inr (by omega)), fun s h1 => ?_⟩, ⟨fun i _ => scU_A (Or.inl (by decide)), fun i _ => scU_A (Or.inl (by decide)), fun r i h1 _ => scU_A (Or.inl (m6 r h1))⟩, ?_, ?_, ?_⟩
  · rw [scU_A (Or.inr (by omega)), scU_A (Or.inr (by omega)), scU_A (Or.inr (by omega))]; omega
  · rw [ef 32 (by decide), ef 39 (by decide), ef 46 (by decide), ef 56 (by decide), ef 58 (by decide), ef 75 (by decide), ef 77 (by decide), ef 83 (by decide)]; omega
  · rw [ef 72 (by decide)]; exact id
  · rw [ef 66 (by decide)]; exact id
theorem KPR_sdn (k : KPR (σ + 1) v w) : KPR σ v w ∧ A w 60 σ = A v 60 σ := by
  obtain ⟨a0, a1, ⟨a6, a7, a8, a9⟩, a10⟩ := k
  exact ⟨⟨a0, a1, ⟨fun s i h1 h2 => a6 s i (by omega) h2, fun r s i h0 h1 h2 => a7 r s i h0 (by omega) h2, fun s h1 => a8 s (by omega), fun s h1 => a9 s (by omega)⟩, a10⟩, a8 σ (by omega)⟩
theorem KPR_65 (k : KPR σ v w) : KPR σ v (wi w 65 y) := by
  obtain ⟨a0, a1, a2, a3, a13, a14, a15⟩ := k
  have ef : ∀ k, k ≠ 65 → F (wi w 65 y) k = F w k := fun k hk => wi_ne hk
  refine ⟨FR.wi a0 (by decide), a1, a2, a3, ?_, ?_, ?_⟩
  · rw [ef 32 (by decide), ef 39 (by decide), ef 46 (by decide), ef 56 (by decide), ef 58 (by decide), ef 75 (by decide), ef 77 (by decide), ef 83 (by decide)]; exact a13
  · rw [ef 72 (by decide)]; exact a14
  · rw [ef 66 (by decide)]; exact a15
theorem KPR_66 (k : KPR σ v w) : KPR σ v (wi w 66 1) := by
  obtain ⟨a0, a1, a2, a3, a13, a14, a15⟩ := k
  have ef : ∀ k, k ≠ 66 → F (wi w 66 1) k = F w k := fun k hk => wi_ne hk
  have e1 : F (wi w 66 1) 66 = 1 := wi_eq ⟨by decide, by decide⟩
  refine ⟨FR.wi a0 (by decide), a1, a2, a3, ?_, ?_, ?_⟩
  · rw [ef 32 (by decide), ef 39 (by decide), ef 46 (by decide), ef 56 (by decide), ef 58 (by decide), ef 75 (by decide), ef 77 (by decide), ef 83 (by decide)]; exact a13
  · rw [ef 72 (by decide)]; exact a14
  · rw [e1]; intro z; omega
theorem ST_66 (hs : ST u0 σ p o n q c f h s wt g u) : ST u0 σ p o n q c f h s wt g (wi u 66 1) :=
  ST_sc hs (FR.wi FR.rf (by decide)) (fun s hs' => hs.2.2.2.1 s hs') (Or.inr (wi_eq ⟨by decide, by decide⟩))
theorem ST_hl {i : Nat} {h' : Int} (hs : ST u0 σ p o n q c f h s wt g u) (a : HLP σ u v i) (hh : h' = h + i) : ST u0 σ p o n q c f h' s wt g v := by
  obtain ⟨fr, b2, -⟩ := a
  obtain ⟨b1, e, b3, b6, b7, b8⟩ := hs
  have ef : ∀ k, k ≠ 58 → F v k = F u k := fun k hk => fr.F (by simpa using hk)
  refine ⟨FR.tr b1 (FRP fr (by decide) (by decide) (by decide)), ?_, ?_, SCP_fr b6 fr (by decide), K44_fr b7 fr (by decide), NGD_fr b8 fr (by decide) (by decide)⟩
  · rw [ef 65 (by decide), ef 69 (by decide), ef 70 (by decide), ef 32 (by decide), ef 39 (by decide), ef 46 (by decide), ef 56 (by decide), ef 75 (by decide), ef 77 (by decide), ef 83 (by decide), ef 73 (by decide), b2]
    obtain ⟨e1, e2, e3, e4, e5, e6, e7, e8, e9, e10, e11, e12⟩ := e
    exact ⟨e1, e2, e3, e4, e5, e6, by omega, e8, e9, e10, e11, e12⟩
  · rw [ef 71 (by decide), ef 66 (by decide)]; exact b3
theorem KPR_hl {σ1 i : Nat} (k : KPR σ w u) (a : HLP σ1 u v i) : KPR σ w v := by
  obtain ⟨fr, b2, b3, b4⟩ := a
  have ef : ∀ k, k ≠ 58 → F v k = F u k := fun k hk => fr.F (by simpa using hk)
  have g : ∀ r i, r ≠ 57 → A v r i = A u r i := fun r i hr => fr.A (by simpa using hr)
  obtain ⟨a0, ⟨a1, a2, a3, a4, a5⟩, ⟨a6, a7, a8, a9⟩, ⟨a10, a11, a12⟩, a13, a14, a15⟩ := k
  have m1 : ∀ r, r ∈ [23, 24, 25, 26, 27, 28, 29, 30, 31] → r ≠ 57 := by decide
  have m2 : ∀ r, r ∈ [33, 35, 36, 37, 38] → r ≠ 57 := by decide
  have m3 : ∀ r, r ∈ [40, 41, 42, 43, 45] → r ≠ 57 := by decide
  have m4 : ∀ r, r ∈ [53, 54, 55] → r ≠ 57 := by decide
  have m5 : ∀ r, r ∈ [61, 62] → r ≠ 57 := by decide
  have m6 : ∀ r, r ∈ [79, 80, 81, 82] → r ≠ 57 := by decide
  refine ⟨FR.tr a0 (FRP fr (by decide) (by decide) (by decide)), ⟨fun r i h1 h2 => (g r i (m1 r h1)).trans (a1 r i h1 h2), fun r i h1 h2 => (g r i (m2 r h1)).trans (a2 r i h1 h2), fun r i h1 h2 => (g r i (m3 r h1)).trans (a3 r i h1 h2), fun r i h1 h2 => (g r i (m4 r h1)).trans (a4 r i h1 h2), fun i h2 => (b4 i (by omega)).trans (a5 i h2)⟩, ⟨fun s i h1 h2 => (g 59 _ (by decide)).trans (a6 s i h1 h2), fun r s i h0 h1 h2 => (g r _ (m5 r h0)).trans (a7 r s i h0 h1 h2), fun s h1 => (g 60 s (by decide)).trans (a8 s h1), fun s h1 => ?_⟩, ⟨fun i h2 => (g 74 i (by decide)).trans (a10 i h2), fun i h2 => (g 76 i (by decide)).trans (a11 i h2), fun r i h1 h2 => (g r i (m6 r h1)).trans (a12 r i h1 h2)⟩, ?_, ?_, ?_⟩
  · rw [g 60 s (by decide), g 63 s (by decide), g 64 s (by decide)]; exact a9 s h1
  · rw [ef 32 (by decide), ef 39 (by decide), ef 46 (by decide), ef 56 (by decide), ef 75 (by decide), ef 77 (by decide), ef 83 (by decide), b2]; omega
  · rw [ef 72 (by decide)]; exact a14
  · rw [ef 66 (by decide)]; exact a15
theorem FSM_dn {i : Nat} (hs : FSM u0 TN (σ + 1) d u) (a : HLP (σ + 1) u v i) (hi : i ≤ 60) (hσ : σ ≤ 100) : FSM u0 TN σ d (wi v 65 σ) := by
  obtain ⟨fr, b2, -⟩ := a
  obtain ⟨c1, c2, c3, c4, c5, c6, c7, c8⟩ := hs
  have ef : ∀ k, k ≠ 58 → k ≠ 65 → F (wi v 65 σ) k = F u k := fun k hk hk2 => (wi_ne hk2).trans (fr.F (by simpa using hk))
  have e58 : F (wi v 65 σ) 58 = F u 58 + i := (wi_ne (by decide)).trans b2
  have g : ∀ r i, r ≠ 57 → A (wi v 65 σ) r i = A u r i := fun r i hr => fr.A (by simpa using hr)
  refine ⟨FR.wi (FR.tr c1 (FRP fr (by decide) (by decide) (by decide))) (by decide), by rw [ef 67 (by decide) (by decide)]; exact c2, by rw [ef 69 (by decide) (by decide), ef 71 (by decide) (by decide)]; exact c3, wi_eq ⟨by omega, by omega⟩, by rw [ef 32 (by decide) (by decide)]; exact c5, by rw [e58]; omega, fun s hs => ?_, fun i => ?_⟩
  · rw [g 63 s (by decide)]; exact c7 s (by omega)
  · rw [g 44 i (by decide)]; exact c8 i
end
end
section
section
variable {Q : MS → Int32 → Prop} {u0 u v w x V X : MS} {N σ TN SN e j k n0 R0 : Nat} {bw : Nat → Nat} {p o n q c f h s wt g D d B l z t p1 n1 q1 c1 f1 h1 a : Int} {r v2 v3 v4 : Int32} {S : SG_M_behind} {G : MS → Int32 → Int32 → Int32 → Int32 → Option (MS × Int32)}
theorem f69_ok (hs : ST u0 σ p o n q c f h s wt g u) (hp : 0 ≤ p ∧ p ≤ 4000) (hn : 0 ≤ n ∧ n < 15999) (ht : 0 ≤ t ∧ t < 4002) (a : ∀ v y1 y2, NDV u v 15 t → Q (nx1 (wa (wa v 25 n.toNat y1) 26 n.toNat y2)) (I n)) : OK Q (fb_M_fun_69 N S G u (I t)) := by
  have e69 : F u 69 = p := hs.2.1.1
  have e32 : F u 32 = n := hs.2.1.2.2.1
  unfold fb_M_fun_69
  refine k_node (k := 15) (t := t) rfl (by decide) rfl ht (by omega) (fun v hv => ?_)
  rw [e32]
  have v69 : F v 69 = p := (hv.1.1.F (by decide)).trans e69
  refine k_in (k := 7) (n := 4002) rfl (by decide) (by omega) (k_in (k := 25) (n := 16000) rfl (by decide) (by omega) (ok_lt.mpr ?_))
  rw [I_tn (x := n) (by omega) (by omega), I_A (k := 7), wa_e]
  refine k_at (k := 7) (n := 4002) rfl (by decide) (by rw [F_wa]; omega) (k_in (k := 26) (n := 16000) rfl (by decide) (by omega) (ok_lt.mpr (ok_lt.mpr ?_)))
  rw [I_A (k := 7), wa_e, nx1_e]
  exact ok_some.mpr (a v _ _ hv)
theorem ST_ref {v : MS} {y1 y2 : Int} (hs : ST u0 σ p o n q c f h s wt g u) (hp : 0 ≤ p ∧ p ≤ 4000) (hn : 0 ≤ n) (ht : 0 ≤ t ∧ t < 4002) (hv : NDV u v 15 t) : ST u0 σ (p + 1) o (n + 1) q c f h s wt g (nx1 (wa (wa v 25 n.toNat y1) 26 n.toNat y2)) := by
  have e32 : F u 32 = n := hs.2.1.2.2.1
  refine ST_nx (ST_wa (ST_wa25 (ST_nd hs hv.1 ht hn (fun z => by omega)) ?_) (by decide)) (by omega)
  rw [← e32, hv.1.2.2.1]; decide
theorem refer_ok (tk : TKW u0 TN SN bw) (ho : 0 ≤ o ∧ o ≤ 25) (hs : ST u0 σ p o n q c f h s wt 0 u) (hf : F u 67 = 0) (hm : NM TN bw 0 0 0 σ p o n q c f h s wt) (hl : LGS σ u) (hp : p + 1 < TN) (hD : 1 ≤ D ∧ D ≤ 2990) : OK (fun x r => EXQ u0 TN SN bw σ (o - 1) p o n q c f h s wt 0 u x r ∨ FSM u0 TN σ D x) (bnd (fm_M_needSign N (nx1 (nx1 u)) 24) (fun u25 _ => br (decide ((u25.1 67) = 0)) (ck (inb (u25.1 69) (ln 6)) (br (decide ((u25.2.2.1 6 (u25.1 69).toNatClampNeg) = 4)) (fb_M_fun_69 N S G u25 (I (p + 1))) (bnd (fm_M_wrong N u25 2) (fun u26 _ => fb_M_fun_69 N S G u26 (I (p + 1)))))) (fb_M_fun_69 N S G u25 (I (p + 1))))) := by
  have hT := tk.1.1
  have fs := NM_fs hm (by omega)
  have e32 : F u 32 = n := hs.2.1.2.2.1
  have s1 := ST_nx hs (by omega)
  have s2 := ST_nx s1 (by omega)
  rw [show p + 1 + 1 = p + 2 by omega] at s2
  have k2 : KPR σ u (nx1 (nx1 u)) := KPR_w0 (KPR_w0 KPR_rf (by decide)) (by decide)
  have e69 : F (nx1 (nx1 u)) 69 = p + 2 := s2.2.1.1
  have bad : ∀ (v : MS) (p' : Int), ST u0 σ p' o n q c f h s wt 0 v → (0 ≤ p' ∧ p' ≤ TN) → F v 67 ≠ 0 → OK (fun x r => EXQ u0 TN SN bw σ (o - 1) p o n q c f h s wt 0 u x r ∨ FSM u0 TN σ D x) (fb_M_fun_69 N S G v (I (p + 1))) := fun v p' sv hp' h67 => by
    refine f69_ok sv (by omega) (by omega) (by omega) (fun v1 y1 y2 hv1 => Or.inr ?_)
    have s3 := ST_ref (y1 := y1) (y2 := y2) sv (by omega) (by omega) (by omega) hv1
    refine FSM_of s3 (by omega) (by omega) fs.1 ?_
    have : F (nx1 (wa (wa v1 25 n.toNat y1) 26 n.toNat y2)) 67 = F v 67 := by unfold nx1; rw [wi_ne (by decide), F_wa, F_wa]; exact hv1.1.1.F (by decide)
    rw [this]; exact h67
  refine k_needSign (s := 24) rfl ⟨by decide, by decide⟩ (by omega) (fun h0 z => ?_) (fun v3 h3 h4 => ?_)
  · have z2 := ST_IS s2 z
    have ltp := tok_lt tk (by omega) (show ¬ (A u0 6 (p + 2).toNat = 0 ∨ A u0 6 (p + 2).toNat = 7) by omega)
    have s3 := ST_nx s2 (by omega)
    rw [show p + 2 + 1 = p + 3 by omega] at s3
    have k3 : KPR σ u (nx1 (nx1 (nx1 u))) := KPR_w0 k2 (by decide)
    have f3 : F (nx1 (nx1 (nx1 u))) 67 = 0 := by unfold nx1; rw [wi_ne (by decide), wi_ne (by decide), wi_ne (by decide)]; exact hf
    have mu : mks (nx1 (nx1 (nx1 u))) = mks u := by
      have a1 : mks (nx1 u) = mks u := wi_mks (by decide)
      have a2 : mks (nx1 (nx1 u)) = mks (nx1 u) := wi_mks (by decide)
      have a3 : mks (nx1 (nx1 (nx1 u))) = mks (nx1 (nx1 u)) := wi_mks (by decide)
      rw [a3, a2, a1]
    have r60 : ∀ r i, A (nx1 (nx1 (nx1 u))) r i = A u r i := fun _ _ => rfl
    generalize nx1 (nx1 (nx1 u)) = V at *
    have e69v : F V 69 = p + 3 := s3.2.1.1
    have e32v : F V 32 = n := s3.2.1.2.2.1
    refine k_F (y := 0) rfl ⟨by decide, by decide⟩ (fun _ => ?_) (fun y => absurd f3 y)
    refine k_at (k := 6) (n := 4002) rfl (by decide) (by omega) ?_
    refine k_A (y := 4) rfl ⟨by decide, by decide⟩ (fun y => ?_) (fun _ => ?_)
    · rw [tn_F, e69v, ST_A s3 (by decide)] at y
      have ltp2 := tok_lt tk (by omega) (show ¬ (A u0 6 (p + 3).toNat = 0 ∨ A u0 6 (p + 3).toNat = 7) by omega)
      refine f69_ok s3 (by omega) (by omega) (by omega) (fun v1 y1 y2 hv1 => Or.inl ?_)
      have sx := ST_ref (y1 := y1) (y2 := y2) s3 (by omega) (by omega) (by omega) hv1
      rw [show p + 3 + 1 = p + 4 by omega] at sx
      have nd := hv1.1
      have kx : KPR σ V (nx1 (wa (wa v1 25 n.toNat y1) 26 n.toNat y2)) := KPR_w0 (KPR_wn (KPR_wn (KPR_nd KPR_rf nd (by omega)) (by decide) (by omega)) (by decide) (by omega)) (by decide)
      have f7 : F (nx1 (wa (wa v1 25 n.toNat y1) 26 n.toNat y2)) 67 = 0 := by unfold nx1; rw [wi_ne (by decide), F_wa, F_wa]; exact (nd.1.F (by decide)).trans f3
      have nn : NEWN (nx1 (wa (wa v1 25 n.toNat y1) 26 n.toNat y2)) n.toNat 15 := by
        have q := NEWN_of hv1 (by omega)
        rw [e32v] at q
        have g : ∀ r, r ≠ 25 → r ≠ 26 → A (nx1 (wa (wa v1 25 n.toNat y1) 26 n.toNat y2)) r n.toNat = A v1 r n.toNat := fun r h1 h2 => by
          show A (wa (wa v1 25 n.toNat y1) 26 n.toNat y2) r n.toNat = _
          rw [wa_rne h2, wa_rne h1]
        unfold NEWN
        rw [g 23 (by decide) (by decide), g 24 (by decide) (by decide), g 28 (by decide) (by decide), g 29 (by decide) (by decide), g 30 (by decide) (by decide)]
        exact q
      have on : ONE (mks u) (mks (nx1 (wa (wa v1 25 n.toNat y1) 26 n.toNat y2))) n.toNat := by
        have q := ONE_nd nd (by omega)
        rw [e32v, mu] at q
        have a1 : mks (nx1 (wa (wa v1 25 n.toNat y1) 26 n.toNat y2)) = mks v1 := mks_c (fun k hk => by
          have : ∀ k, k ∈ [32, 39, 46, 56, 58] → k ≠ 69 := by decide
          unfold nx1; rw [wi_ne (this k hk), F_wa, F_wa])
        rw [a1]; exact q
      have x60 : A (nx1 (wa (wa v1 25 n.toNat y1) 26 n.toNat y2)) 60 σ = A u 60 σ := by
        show A (wa (wa v1 25 n.toNat y1) 26 n.toNat y2) 60 σ = _
        rw [wa_rne (by decide), wa_rne (by decide), nd.1.A (by decide)]; exact r60 60 σ
      generalize nx1 (wa (wa v1 25 n.toNat y1) 26 n.toNat y2) = X at *
      have kuX := KPR_tr k3 kx
      have lX : LGS σ X := fun y => by rw [x60]; exact hl (kuX.2.2.2.2.2.2 y)
      refine ⟨f7, p + 4, n + 1, q, c, f, h, n.toNat, by rw [show ((n.toNat : Nat) : Int) = n by omega], sx, kuX, by omega, ?_, ⟨by omega, by omega, ?_, nn.2.2.2.2.1⟩, lX, fun y1 y2 y3 => ?_⟩
      · have nu0 : nu u0 (p + 4).toNat = 0 := by
          have := nu_wd (p := p + 3) (Or.inr y) (by omega)
          rw [show p + 3 + 1 = p + 4 by omega] at this
          exact this
        have b1 := bw_mono tk (i := p.toNat) (m := (p + 4).toNat) (by omega) (by omega)
        rw [nu0]
        unfold DLT
        omega
      · exact RTD_mo 0 _ _ ⟨by omega, nn.2.2.2.1⟩ (by omega)
      · have sc := (sx.2.2.2.1 σ (Nat.le_refl σ)).1
        have l9 := lX y2
        have nX : nmo σ X = nmo σ u := by unfold nmo; rw [x60]
        have nu40 : nmo σ u ≤ 40 ∧ ((nmo σ u : Nat) : Int) ≤ A X 64 σ := by unfold nmo; omega
        refine ⟨nmo σ u, 1, 0, ?_, nu40.1, nu40.2, by omega, by omega⟩
        rw [nX]
        exact s15 on nn ⟨Nat.le_refl _, Nat.le_refl _, Nat.le_refl _⟩
    · refine k_wrong (s := 2) rfl ⟨by decide, by decide⟩ (by decide) (by omega) (fun v4 h5 h6 => ?_)
      exact bad v4 (p + 3) (ST_67 s3 h5) (by omega) h6
  · have s3 := ST_67 s2 h3
    refine k_F (y := 0) rfl ⟨by decide, by decide⟩ (fun y => absurd y h4) (fun _ => ?_)
    exact bad v3 (p + 2) s3 (by omega) h4
end
end
