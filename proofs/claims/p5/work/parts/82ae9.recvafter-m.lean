section
section
variable {Q : MS → Int32 → Prop} {u0 u v w x V X : MS} {N σ TN SN e j k n0 R0 : Nat} {bw : Nat → Nat} {p o n q c f h s wt g D d B l z t p1 n1 q1 c1 f1 h1 a : Int} {r v2 v3 v4 : Int32} {S : SG_M_behind}
def HID (p : Prop) : Prop := p
theorem HID_in {p : Prop} (h : p) : HID p := h
theorem HID_out {p : Prop} (h : HID p) : p := h
theorem cnt_st {g2 o2 s2 wt2 : Int} {p2 n2 q2 c2 f2 h2 y b : Int} {bb : Nat} (hv : ST u0 σ p o n q c f h s wt g v) (hx : ST u0 σ p2 o2 n2 q2 c2 f2 h2 s2 wt2 g2 x) (d : DLT bw y b bb p n q c f h p2 n2 q2 c2 f2 h2) : F v 32 ≤ F x 32 ∧ F v 46 ≤ F x 46 ∧ F v 39 ≤ F x 39 ∧ F v 56 ≤ F x 56 ∧ F v 58 ≤ F x 58 := by
  obtain ⟨-, ⟨-, -, a1, a2, a3, a4, a5, -⟩, -⟩ := hv
  obtain ⟨-, ⟨-, -, b1, b2, b3, b4, b5, -⟩, -⟩ := hx
  obtain ⟨-, d1, -, d2, -, d3, -, d4, -, d5, -⟩ := d
  rw [a1, a2, a3, a4, a5, b1, b2, b3, b4, b5]
  exact ⟨d1, d3, d2, d4, d5⟩
theorem DLT_nd {y b : Int} {bb : Nat} {p2 : Int} (da : DLT bw y b bb p (n + 1) q c f h p2 (n + 1) q c f h) : DLT bw (y - 1) b bb p n q c f h p2 (n + 1) q c f h := by unfold DLT at da ⊢; omega
theorem NM_3 {k : Int} (h' : NM TN bw k 0 0 σ p o n q c f h s wt) (hk : k ≤ 3) : NM TN bw 3 0 0 σ p o n q c f h s wt := by unfold NM at h' ⊢; omega
theorem DLT_rc {p2 p3 n2 n3 q2 q3 c2 c3 f2 f3 h2 h3 : Int} {bb : Nat} (b4 : DLT bw 0 0 0 p (n + 2) q c f h p1 n1 q1 c1 f1 h1) (dn : DLT bw 3 1 1 p1 n1 q1 c1 f1 h1 (p1 + 1) n1 q1 c1 f1 h1) (x5 : DLT bw 2 1 bb (p1 + 1) n1 q1 c1 f1 h1 p2 n2 q2 c2 f2 h2) (da : DLT bw 3 1 2 p2 (n2 + 1) q2 c2 f2 h2 (p2 + 1) (n2 + 1) q2 c2 f2 h2) (y5 : DLT bw 1 1 1 (p2 + 1) (n2 + 1) q2 c2 f2 h2 p3 n3 q3 c3 f3 h3) (de : DLT bw 3 1 1 p3 n3 q3 c3 f3 h3 (p3 + 1) n3 q3 c3 f3 h3) : DLT bw 3 1 1 p n q c f h (p3 + 1) (n3 + 1) q3 c3 f3 h3 := by
  have dd : DLT bw 2 1 2 p2 n2 q2 c2 f2 h2 (p2 + 1) (n2 + 1) q2 c2 f2 h2 := by unfold DLT at da ⊢; omega
  have t := DLT_tr (DLT_tr (DLT_tr (DLT_tr (DLT_tr b4 dn) x5) dd) y5) de
  unfold DLT at t ⊢
  omega
theorem mx3 {a b c : Nat} {y : Int} (h1 : (a : Int) ≤ y) (h2 : (b : Int) ≤ y) (h3 : (c : Int) ≤ y) : ((max a (max b c) : Nat) : Int) ≤ y := by omega
theorem mx3' {a b c : Nat} {y : Int} (h1 : 2 * (a : Int) ≤ y) (h2 : 2 * (b : Int) ≤ y) (h3 : 2 * (c : Int) ≤ y) : 2 * ((max a (max b c) : Nat) : Int) ≤ y := by omega
theorem mx3o {a b c : Nat} {y z : Int} (h1 : (a : Int) + z ≤ y) (h2 : (b : Int) + z ≤ y) (h3 : (c : Int) + z ≤ y) : ((max a (max b c) : Nat) : Int) + z ≤ y := by omega
theorem mx3n {a b c y : Nat} (h1 : a ≤ y) (h2 : b ≤ y) (h3 : c ≤ y) : max a (max b c) ≤ y := by omega
theorem mx3l {a b c : Nat} : a ≤ max a (max b c) ∧ b ≤ max a (max b c) ∧ c ≤ max a (max b c) := by omega
set_option maxRecDepth 100000 in
theorem recv1_ok (tk : TKW u0 TN SN bw) (hD : 0 ≤ D ∧ D ≤ 2900) (ho : 0 ≤ o ∧ o ≤ 25) (hx : XSP u0 TN SN bw D 3 0 0 0 o S.2.2.2.2.2.2.2.2.2.2.2.2.2.1) (hb : XSB u0 TN SN bw D o S.2.2.2.2.1) (hbn : XNO S.2.2.2.2.1) (hm : NM TN bw 0 0 0 σ p o (n + 2) q c f h s wt) (hu : F u 32 = n ∧ 0 ≤ n) (lu : LGS σ u) (hv : RHV u0 TN SN bw σ j p o n q c f h s wt u V k p1 n1 q1 c1 f1 h1) (iw : IW V 0) : OK (fun x r => CHQ u0 TN SN bw σ 0 p o n q c f h s wt u x r ∨ FSM u0 TN σ (D + 4) x) (ck (inb (I j) (ln 25)) (lt (upA (nx1 V) 25 (upd ((nx1 V).2.2.1 25) (I j).toNatClampNeg ((nx1 V).1 32))) (fun w7 => bnd (S.2.2.2.2.2.2.2.2.2.2.2.2.2.1 w7) (fun u8 r8 => bnd (fm_M_node N u8 28 (u8.1 69)) (fun u9 r9 => rcA N S (I (A u 60 σ)) (I ((j + 1 : Nat) : Int)) r9 u9))))) := by
  have hT := tk.1.1
  obtain ⟨b0, b1, b2, ⟨b3, bj⟩, b4, b5, ⟨b6, b60⟩, ⟨b7, b8, b9, b10⟩, b11', b12⟩ := hv
  have b11 := HID_in b11'
  clear b11'
  have nm1 := NM_dlt tk hm b4 (by omega) (by omega) b3
  have fs1 := NM_fs nm1 (by omega)
  have hc : 0 ≤ c := by unfold NM at hm; omega
  have e69 : F V 69 = p1 := b1.2.1.1
  have e32 : F V 32 = n1 := b1.2.1.2.2.1
  have hn1 : n + 2 ≤ n1 ∧ p ≤ p1 := ⟨b4.2.1, by have := b4.1; omega⟩
  have z2 := ST_IW b1 iw
  have ltp := tok_lt tk (by omega) (show ¬ (A u0 6 (p1).toNat = 0 ∨ A u0 6 (p1).toNat = 7) by omega)
  have dn := DLT_1 (n := n1) (q := q1) (c := c1) (f := f1) (h := h1) (m := 0) tk ⟨by omega, ltp⟩ (by omega)
  rw [show n1 + 0 = n1 by omega] at dn
  have s2 := ST_nx b1 (by omega)
  have kc : KPR σ V (nx1 V) := KPR_w0 KPR_rf (by decide)
  have rn1 : RG n1 := ⟨by omega, by omega⟩
  refine k_in (k := 25) (n := 16000) rfl (by decide) (by omega) (ok_lt.mpr ?_)
  have e32n : F (nx1 V) 32 = n1 := (wi_ne (by decide)).trans e32
  rw [I_tn (x := (j : Int)) (by omega) (by omega), I_F' e32n, wa_e, show ((j : Nat) : Int).toNat = j by omega]
  have s3 : ST u0 σ (p1 + 1) o n1 q1 c1 f1 h1 s wt 0 (wa (nx1 V) 25 j n1) := ST_wa25 s2 (by
    show A V 23 j ≠ 12
    rw [b7.1]; decide)
  have k3 : KPR σ u (wa (nx1 V) 25 j n1) := KPR_wn (KPR_tr b2 kc) (by decide) (by omega)
  have eq3 : EQX σ (j + 2) V (wa (nx1 V) 25 j n1) := EQX_tr (EQX_kp kc) (EQX_wa (by decide) (Or.inl (by omega)))
  have g3 : ∀ r i, (r = 25 → i ≠ j) → A (wa (nx1 V) 25 j n1) r i = A V r i := fun r i hr => by
    by_cases z : r = 25
    · rw [wa_ne (hr z)]; rfl
    · rw [wa_rne z]; rfl
  have g25 : A (wa (nx1 V) 25 j n1) 25 j = n1 := wa_eq rn1
  have f3 : ∀ t, t ≠ 69 → F (wa (nx1 V) 25 j n1) t = F V t := fun t ht => by rw [F_wa]; exact wi_ne ht
  have mk3 : mks (wa (nx1 V) 25 j n1) = mks V := mks_c (fun t ht => f3 t (by
    have : ∀ t, t ∈ [32, 39, 46, 56, 58] → t ≠ 69 := by decide
    exact this t ht))
  generalize wa (nx1 V) 25 j n1 = W at *
  have e32w : F W 32 = n1 := s3.2.1.2.2.1
  have w60 : A W 60 σ = A u 60 σ := (g3 60 σ (fun z => absurd z (by decide))).trans b6
  have l3 : LGS σ W := fun z => by rw [w60]; exact lu (k3.2.2.2.2.2.2 z)
  have f67 : F W 67 = 0 := (f3 67 (by decide)).trans b0
  have nm3 : NM TN bw 3 0 0 σ (p1 + 1) o n1 q1 c1 f1 h1 s wt := by
    exact NM_3 (NM_dlt tk nm1 dn (by omega) (by omega) (by omega)) (by omega)
  refine ok_bnd.mpr (ok_mono (hx W σ _ _ _ _ _ _ _ _ _ s3 f67 nm3 l3) (fun u8 r8 h8 => ?_))
  rcases h8 with ⟨x0, p2, n2, q2, c2, f2, h2, e0, -, x2, x3, x4, x5, x6, x7, x8⟩ | ⟨h8, -⟩
  · have nm4 := NM_dlt tk nm3 x5 (by omega) (by omega) x4
    have fs4 := NM_fs nm4 (by omega)
    have e69e : F u8 69 = p2 := x2.2.1.1
    have e32e : F u8 32 = n2 := x2.2.1.2.2.1
    have hn2 : n1 ≤ n2 ∧ p1 + 2 ≤ p2 := ⟨x5.2.1, by have := x5.1; omega⟩
    refine k_node (k := 28) (t := p2) rfl (by decide) (I_F' e69e) (by omega) (by omega) (fun u9 h9 => ?_)
    rw [e32e]
    have nd := h9.1
    have s9 := ST_nd x2 nd (by omega) (by omega) (fun z => absurd z (by decide))
    have k9 : KPR σ u8 u9 := KPR_nd KPR_rf nd (by omega)
    have e329 : F u9 32 = n2 + 1 := s9.2.1.2.2.1
    have k8 : KPR σ u u8 := KPR_tr k3 x3
    have k89 : KPR σ u u9 := KPR_tr k8 k9
    have k60 := (k89.2.2.1.2.2.2 σ (Nat.le_refl σ)).1
    have rj : RG ((j + 1 : Nat) : Int) := ⟨by omega, by omega⟩
    have rn2 : RG n2 := ⟨by omega, by omega⟩
    have rB : RG (A u 60 σ) := ARG1 u 60 σ
    have nn : NEWN u9 n2.toNat 28 := by
      have := NEWN_of h9 (by omega)
      rw [e32e] at this
      exact this
    unfold rcA
    refine k_in (k := 25) (n := 16000) rfl (by decide) (by omega) (ok_lt.mpr (k_in (k := 27) (n := 16000) rfl (by decide) (by omega) (ok_lt.mpr ?_)))
    rw [I_tn (x := n2) (by omega) (by omega), wa_e, wa_e]
    have e65 : F (wa (wa u9 25 n2.toNat ((j + 1 : Nat) : Int)) 27 n2.toNat (A u 60 σ)) 65 = σ := by rw [F_wa, F_wa]; exact s9.2.1.2.2.2.2.2.2.2.2.2.2.2
    refine k_at (k := 60) (n := 27) rfl (by decide) (by omega) (ok_lt.mpr ?_)
    rw [I_F' e65, I_tn (x := (σ : Int)) (by omega) (by omega), wa_e, show ((σ : Nat) : Int).toNat = σ by omega]
    refine k_in (k := 31) (n := 16000) rfl (by decide) (by omega) (ok_lt.mpr ?_)
    rw [I_tn (x := ((j + 1 : Nat) : Int)) (by omega) (by omega), wa_e, show ((j + 1 : Nat) : Int).toNat = j + 1 by omega]
    have s12 : ST u0 σ p2 o (n2 + 1) q2 c2 f2 h2 s wt 0 (wa (wa (wa (wa u9 25 n2.toNat ((j + 1 : Nat) : Int)) 27 n2.toNat (A u 60 σ)) 60 σ (A u 60 σ)) 31 (j + 1) n2) := by
      refine ST_wa (ST_60 (ST_wa (ST_wa25 s9 (by rw [nn.1]; decide)) (by decide)) ⟨b60, ?_⟩) (by decide)
      rw [wa_rne (by decide), wa_rne (by decide)]; exact k60
    have k12 : KPR σ u (wa (wa (wa (wa u9 25 n2.toNat ((j + 1 : Nat) : Int)) 27 n2.toNat (A u 60 σ)) 60 σ (A u 60 σ)) 31 (j + 1) n2) := KPR_wn (KPR_60 (KPR_wn (KPR_wn k89 (by decide) (by omega)) (by decide) (by omega)) (Int.le_refl _) rB) (by decide) (by omega)
    have eq12 : EQX σ (j + 2) u8 (wa (wa (wa (wa u9 25 n2.toNat ((j + 1 : Nat) : Int)) 27 n2.toNat (A u 60 σ)) 60 σ (A u 60 σ)) 31 (j + 1) n2) := EQX_w2 (EQX_tr (EQX_w2 (EQX_w2 (EQX_kp k9) (by decide) (Or.inr (by omega))) (by decide) (Or.inr (by omega))) (EQX_wa (by decide) (Or.inr (Or.inr rfl)))) (by decide) (Or.inl (by omega))
    have g12 : ∀ r i, i ≠ n2.toNat → (r = 31 → i ≠ j + 1) → r ≠ 60 → A (wa (wa (wa (wa u9 25 n2.toNat ((j + 1 : Nat) : Int)) 27 n2.toNat (A u 60 σ)) 60 σ (A u 60 σ)) 31 (j + 1) n2) r i = A u8 r i := fun r i h1 h2 h3 => by
      have : A (wa (wa (wa (wa u9 25 n2.toNat ((j + 1 : Nat) : Int)) 27 n2.toNat (A u 60 σ)) 60 σ (A u 60 σ)) 31 (j + 1) n2) r i = A (wa (wa (wa u9 25 n2.toNat ((j + 1 : Nat) : Int)) 27 n2.toNat (A u 60 σ)) 60 σ (A u 60 σ)) r i := by
        by_cases z : r = 31
        · exact wa_ne (h2 z)
        · exact wa_rne z
      rw [this, wa_rne h3, wa_ne h1, wa_ne h1]
      exact nd.2.2.2.2 r i (by rw [e32e]; exact h1)
    have m12 : A (wa (wa (wa (wa u9 25 n2.toNat ((j + 1 : Nat) : Int)) 27 n2.toNat (A u 60 σ)) 60 σ (A u 60 σ)) 31 (j + 1) n2) 31 (j + 1) = n2 := wa_eq rn2
    have n12 : NEWN (wa (wa (wa (wa u9 25 n2.toNat ((j + 1 : Nat) : Int)) 27 n2.toNat (A u 60 σ)) 60 σ (A u 60 σ)) 31 (j + 1) n2) n2.toNat 28 := by
      have q : ∀ r, r ∈ [23, 24, 28, 29, 30] → r ≠ 31 ∧ r ≠ 60 ∧ r ≠ 27 ∧ r ≠ 25 := by decide
      have q2 : ∀ r, r ∈ [23, 24, 28, 29, 30] → A (wa (wa (wa (wa u9 25 n2.toNat ((j + 1 : Nat) : Int)) 27 n2.toNat (A u 60 σ)) 60 σ (A u 60 σ)) 31 (j + 1) n2) r n2.toNat = A u9 r n2.toNat := fun r hr => by
        obtain ⟨q1, q2, q3, q4⟩ := q r hr
        rw [wa_rne q1, wa_rne q2, wa_rne q3, wa_rne q4]
      unfold NEWN
      rw [q2 23 (by decide), q2 24 (by decide), q2 28 (by decide), q2 29 (by decide), q2 30 (by decide)]
      exact nn
    have o25 : A (wa (wa (wa (wa u9 25 n2.toNat ((j + 1 : Nat) : Int)) 27 n2.toNat (A u 60 σ)) 60 σ (A u 60 σ)) 31 (j + 1) n2) 25 n2.toNat = ((j + 1 : Nat) : Int) := by rw [wa_rne (by decide), wa_rne (by decide), wa_rne (by decide)]; exact wa_eq rj
    have o27 : A (wa (wa (wa (wa u9 25 n2.toNat ((j + 1 : Nat) : Int)) 27 n2.toNat (A u 60 σ)) 60 σ (A u 60 σ)) 31 (j + 1) n2) 27 n2.toNat = A u 60 σ := by rw [wa_rne (by decide), wa_rne (by decide)]; exact wa_eq rB
    have o60 : A (wa (wa (wa (wa u9 25 n2.toNat ((j + 1 : Nat) : Int)) 27 n2.toNat (A u 60 σ)) 60 σ (A u 60 σ)) 31 (j + 1) n2) 60 σ = A u 60 σ := by rw [wa_rne (by decide)]; exact wa_eq rB
    have f12 : ∀ t, t ≠ 32 → F (wa (wa (wa (wa u9 25 n2.toNat ((j + 1 : Nat) : Int)) 27 n2.toNat (A u 60 σ)) 60 σ (A u 60 σ)) 31 (j + 1) n2) t = F u8 t := fun t ht => by
      rw [F_wa, F_wa, F_wa, F_wa]; exact nd.1.F (by simpa using ht)
    have on12 : ONE (mks u8) (mks (wa (wa (wa (wa u9 25 n2.toNat ((j + 1 : Nat) : Int)) 27 n2.toNat (A u 60 σ)) 60 σ (A u 60 σ)) 31 (j + 1) n2)) n2.toNat := by
      have := ONE_nd (w := u9) nd (by omega)
      rw [e32e] at this
      have e : mks (wa (wa (wa (wa u9 25 n2.toNat ((j + 1 : Nat) : Int)) 27 n2.toNat (A u 60 σ)) 60 σ (A u 60 σ)) 31 (j + 1) n2) = mks u9 := mks_c (fun k _ => by rw [F_wa, F_wa, F_wa, F_wa])
      rw [e]; exact this
    generalize wa (wa (wa (wa u9 25 n2.toNat ((j + 1 : Nat) : Int)) 27 n2.toNat (A u 60 σ)) 60 σ (A u 60 σ)) 31 (j + 1) n2 = Y at *
    have e69y : F Y 69 = p2 := s12.2.1.1
    have e32y : F Y 32 = n2 + 1 := s12.2.1.2.2.1
    refine k_needSign (s := 10) rfl ⟨by decide, by decide⟩ (by omega) (fun _ zz => ?_) (fun v3 h3 h4 => ?_)
    · have z3 := ST_IS s12 zz
      have ltp2 := tok_lt tk (by omega) (show ¬ (A u0 6 (p2).toNat = 0 ∨ A u0 6 (p2).toNat = 7) by omega)
      have da := DLT_arr (n := n2 + 1) (q := q2) (c := c2) (f := f2) (h := h2) tk ⟨by omega, ltp2⟩ z3.1 z3.2
      have s13 := ST_nx s12 (by omega)
      have kcY : KPR σ Y (nx1 Y) := KPR_w0 KPR_rf (by decide)
      unfold rcB
      refine k_in (k := 26) (n := 16000) rfl (by decide) (by omega) (ok_lt.mpr (k_in (k := 28) (n := 16000) rfl (by decide) (by omega) (ok_lt.mpr ?_)))
      have e32z : F (nx1 Y) 32 = n2 + 1 := (wi_ne (by decide)).trans e32y
      have z1 : ∀ (w : MS) (k i : Nat), upA w k (upd (w.2.2.1 k) i (-1)) = wa w k i (-1) := fun _ _ _ => rfl
      rw [I_tn (x := n2) (by omega) (by omega), I_F' e32z, wa_e, z1]
      have rn3 : RG (n2 + 1) := ⟨by omega, by omega⟩
      have s16 : ST u0 σ (p2 + 1) o (n2 + 1) q2 c2 f2 h2 s wt 0 (wa (wa (nx1 Y) 26 n2.toNat (n2 + 1)) 28 n2.toNat (-1)) := ST_wa (ST_wa s13 (by decide)) (by decide)
      have k16 : KPR σ u (wa (wa (nx1 Y) 26 n2.toNat (n2 + 1)) 28 n2.toNat (-1)) := KPR_wn (KPR_wn (KPR_tr k12 kcY) (by decide) (by omega)) (by decide) (by omega)
      have eq16 : EQX σ (j + 2) u8 (wa (wa (nx1 Y) 26 n2.toNat (n2 + 1)) 28 n2.toNat (-1)) := EQX_w2 (EQX_w2 (EQX_tr eq12 (EQX_kp kcY)) (by decide) (Or.inr (by omega))) (by decide) (Or.inr (by omega))
      have f16 : ∀ t, t ≠ 32 → t ≠ 69 → F (wa (wa (nx1 Y) 26 n2.toNat (n2 + 1)) 28 n2.toNat (-1)) t = F u8 t := fun t h1 h2 => by
        rw [F_wa, F_wa]; exact (wi_ne h2).trans (f12 t h1)
      have g16 : ∀ r i, i ≠ n2.toNat → (r = 31 → i ≠ j + 1) → r ≠ 60 → A (wa (wa (nx1 Y) 26 n2.toNat (n2 + 1)) 28 n2.toNat (-1)) r i = A u8 r i := fun r i h1 h2 h3 => by
        rw [wa_ne h1, wa_ne h1]; exact g12 r i h1 h2 h3
      have h16 : ∀ r i, r ≠ 26 → r ≠ 28 → A (wa (wa (nx1 Y) 26 n2.toNat (n2 + 1)) 28 n2.toNat (-1)) r i = A Y r i := fun r i h1 h2 => by
        rw [wa_rne h2, wa_rne h1]; rfl
      have i26 : A (wa (wa (nx1 Y) 26 n2.toNat (n2 + 1)) 28 n2.toNat (-1)) 26 n2.toNat = n2 + 1 := by rw [wa_rne (by decide)]; exact wa_eq rn3
      have i28 : A (wa (wa (nx1 Y) 26 n2.toNat (n2 + 1)) 28 n2.toNat (-1)) 28 n2.toNat = -1 := wa_eq ⟨by decide, by decide⟩
      have mk16 : mks (wa (wa (nx1 Y) 26 n2.toNat (n2 + 1)) 28 n2.toNat (-1)) = mks Y := mks_c (fun t ht => by
        have : ∀ t, t ∈ [32, 39, 46, 56, 58] → t ≠ 69 := by decide
        rw [F_wa, F_wa]; exact wi_ne (this t ht))
      generalize wa (wa (nx1 Y) 26 n2.toNat (n2 + 1)) 28 n2.toNat (-1) = Z at *
      have z60 : A Z 60 σ = A u 60 σ := (h16 60 σ (by decide) (by decide)).trans o60
      have zf : F Z 67 = 0 := (f16 67 (by decide) (by decide)).trans x0
      have lz : LGS σ Z := fun y => by rw [z60]; exact lu (k16.2.2.2.2.2.2 y)
      have nm16 : NM TN bw 3 0 0 σ (p2 + 1) o (n2 + 1) q2 c2 f2 h2 s wt := by
        have dd : DLT bw 2 1 2 p2 n2 q2 c2 f2 h2 (p2 + 1) (n2 + 1) q2 c2 f2 h2 := DLT_nd da
        exact NM_dlt tk nm4 dd (by omega) (by omega) (by omega)
      have e32Z : F Z 32 = n2 + 1 := s16.2.1.2.2.1
      have tail : ∀ X, FSM u0 TN σ (D + 1) X → OK (fun x r => CHQ u0 TN SN bw σ 0 p o n q c f h s wt u x r ∨ FSM u0 TN σ (D + 4) x) (bnd (fm_M_needWord N X 6) (fun u20 _ => fb_M_receive_237 N S () u20 (I ((j + 1 : Nat) : Int)))) := fun X hX => by
        refine k_needWord (s := 6) rfl ⟨by decide, by decide⟩ (FSM_p hX hT) (fun z _ => absurd z hX.2.1) (fun v2 h3 h4 => ?_)
        exact ok_mono (join_F (N := N) (S := S) (R0 := j + 1) hT (by omega) (FSM_67 hX h3 h4) (by omega)) (fun x t hx => Or.inr (FSM_mo hx (by omega)))
      refine bau_ok (u := u) (R0 := j + 1) (B := A u 60 σ) tk hD ho hb s16 zf nm16 lz k16 ⟨rfl, b60⟩ (by omega) rfl (fun xb hxb => ?_) (fun x hx => tail x hx)
      obtain ⟨y0, p3, n3, q3, c3, f3', h3', e, y1, y2, y3, y4, y5, y6, ⟨y7, y8, y9⟩, y10⟩ := hxb
      have nm5 := NM_dlt tk nm16 y5 (by omega) (by omega) y4
      have fs5 := NM_fs nm5 (by omega)
      have e69x : F xb 69 = p3 := y1.2.1.1
      have e32x : F xb 32 = n3 := y1.2.1.2.2.1
      have hn3 : n2 + 1 ≤ n3 ∧ p2 + 2 ≤ p3 := ⟨y5.2.1, by have := y5.1; omega⟩
      have re : RG ((e : Nat) : Int) := ⟨by omega, by omega⟩
      have m0Z : mks Z 0 = (F Z 32).toNat := rfl
      have ye : ∀ r i, r ∈ [23, 24, 25, 26, 27, 28, 29, 30, 31] → i < n2.toNat + 1 → (r = 28 → i ≠ j + 1) → A xb r i = A Z r i := fun r i hr hi hne => by
        rw [y3.2.1.1 r i hr (by omega)]
        by_cases z : r = 28
        · exact wa_ne (hne z)
        · exact wa_rne z
      have ye2 : A xb 28 (j + 1) = e := by
        rw [y3.2.1.1 28 (j + 1) (by decide) (by omega)]; exact wa_eq re
      have ct := cnt_st s16 y1 y5
      have eqb : EQX σ (j + 2) Z xb := EQX_trn (M := mks Z) y3 (by omega) ct (by omega) y8 y9
      refine k_needWord (s := 6) rfl ⟨by decide, by decide⟩ (by omega) (fun _ zz => ?_) (fun v2 h3 h4 => ?_)
      · have z5 := ST_IW y1 zz
        have ltp3 := tok_lt tk (by omega) (show ¬ (A u0 6 (p3).toNat = 0 ∨ A u0 6 (p3).toNat = 7) by omega)
        have de := DLT_1 (n := n3) (q := q3) (c := c3) (f := f3') (h := h3') (m := 0) tk ⟨by omega, ltp3⟩ (by omega)
        rw [show n3 + 0 = n3 by omega] at de
        have s17 := ST_nx y1 (by omega)
        have kcx : KPR σ xb (nx1 xb) := KPR_w0 KPR_rf (by decide)
        have e32q : F (nx1 xb) 32 = n3 := s17.2.1.2.2.1
        have e69q : F (nx1 xb) 69 = p3 + 1 := s17.2.1.1
        have k17 : KPR σ u (nx1 xb) := KPR_tr (KPR_tr (KPR_wn (x := (e : Int)) (KPR_rf (u := u) (σ := σ)) (r := 28) (i := j + 1) (by decide) (by omega)) y2) kcx
        refine join_ok (u := nx1 xb) (R0 := j + 1) (by omega) (by omega) (by omega) (fun v2 hv2 => Or.inl ?_)
        have sx := ST_jn s17 (by omega) (by omega) hv2
        have kx := KPR_jn k17 (by omega) hv2
        have jn := JNV_of (R0 := j + 1) (by omega) (by omega) hv2
        generalize wa v2 28 (F (nx1 xb) 32).toNat (A (nx1 xb) 28 (j + 1)) = X at *
        have eqxX : EQX σ (j + 2) xb X := EQX_tr (EQX_kp kcx) (EQX_jn jn (by omega) (by omega))
        have equX : EQX σ (j + 2) u8 X := EQX_tr eq16 (EQX_tr eqb eqxX)
        have eqWX : EQX σ (j + 2) V X := EQX_tr (EQX_tr eq3 (EQX_kp x3)) equX
        have on3 := ONE_jn jn (by omega)
        obtain ⟨j1, j2, ⟨j3, j4, j5, j6⟩, j7, j8⟩ := jn
        rw [e32q] at j2 j3 j4 j5 j6 j7 j8 on3
        rw [e32q]
        have xq : ∀ r i, i ≠ n3.toNat → (r = 26 → i ≠ j + 1) → A X r i = A xb r i := fun r i h1 h2 => j8 r i h1 h2
        have x28 : A X 28 n3.toNat = e := j5.trans ye2
        have lowr : ∀ r i, r ∈ [23, 24, 25, 26, 27, 28, 29, 30, 31] → i < n2.toNat → (r = 26 → i ≠ j + 1) → (r = 28 → i ≠ j + 1) → (r = 31 → i ≠ j + 1) → A X r i = A u8 r i := fun r i hr h1 h2 h3 h4 => by
          have : ∀ r, r ∈ [23, 24, 25, 26, 27, 28, 29, 30, 31] → r ≠ 60 := by decide
          rw [xq r i (by omega) h2, ye r i hr (by omega) h3, g16 r i (by omega) h4 (this r hr)]
        have lowv : ∀ r i, r ∈ [23, 24, 25, 26, 27, 28, 29, 30, 31] → i < n1.toNat → (r = 26 → i ≠ j + 1) → (r = 28 → i ≠ j + 1) → (r = 31 → i ≠ j + 1) → (r = 25 → i ≠ j) → A X r i = A V r i := fun r i hr h1 h2 h3 h4 h5 => by
          rw [lowr r i hr (by omega) h2 h3 h4, x3.2.1.1 r i hr (by omega), g3 r i h5]
        have nod : ∀ r, r ∈ [23, 24, 25, 27, 29, 30, 31] → A X r n2.toNat = A Y r n2.toNat := fun r hr => by
          have : ∀ r, r ∈ [23, 24, 25, 27, 29, 30, 31] → r ∈ [23, 24, 25, 26, 27, 28, 29, 30, 31] ∧ r ≠ 26 ∧ r ≠ 28 := by decide
          obtain ⟨q1, q2, q3⟩ := this r hr
          rw [xq r _ (by omega) (fun z => absurd z q2), ye r _ q1 (by omega) (fun z => absurd z q3), h16 r _ q2 q3]
        have a29e : A X 29 e = A V 28 (j + 1) := by
          rw [xq 29 e (by omega) (fun z => absurd z (by decide)), y6.2.2.2, g16 28 (j + 1) (by omega) (fun z => absurd z (by decide)) (by decide), x3.2.1.1 28 (j + 1) (by decide) (by omega), g3 28 (j + 1) (fun z => absurd z (by decide))]
        have a60X : A X 60 σ = A u 60 σ := by rw [j1.A (by decide)]; exact y7
        have f67X : F X 67 = 0 := by rw [j1.F (by decide)]; exact (wi_ne (by decide)).trans y0
        have rt : RTD X (26 - o).toNat n.toNat n3.toNat := by
          have en : (n + 2).toNat = j + 2 := by omega
          obtain ⟨l, r1, r2⟩ := RTL_eqx b5 (by rw [en]; exact eqWX)
          rw [show (26 - o).toNat = (25 - o).toNat + 1 by omega]
          refine ⟨by omega, e :: l, ⟨x28, by omega, ?_⟩, fun t ht => ?_⟩
          · rw [a29e]
            exact CHL_mo (by omega) _ _ r1
          · rcases List.mem_cons.mp ht with z | z
            · rw [z]
              refine RTD_dn (a := (n2 + 1).toNat) (by omega) _ _ ?_
              exact RTD_fr _ _ y6.2.2.1 (xq 28 e (by omega) (fun z => absurd z (by decide))) (fun t i hr h1 h2 => xq t i (by omega) (fun z => by rw [z] at hr; simp at hr))
            · exact RTD_dn (a := (n + 2).toNat) (by omega) _ _ (r2 t z)
        refine ⟨f67X, p3 + 1, n3 + 1, q3, c3, f3', h3', n3.toNat, by rw [show ((n3.toNat : Nat) : Int) = n3 by omega], sx, kx, ⟨by omega, by omega, ?_⟩, ?_, ⟨by omega, by omega, rt, j6⟩, a60X, fun w1 w2 w3 => ?_⟩
        · exact nu_wd (Or.inl z5.1) (by omega)
        · exact DLT_rc b4 dn x5 da y5 de
        · have cc1 : ((n1.toNat : Nat) : Int) = n1 := by omega
          have cc2 : ((n2.toNat : Nat) : Int) = n2 := by omega
          have cc3 : ((n3.toNat : Nat) : Int) = n3 := by omega
          have cj1 : (F V 32).toNat = n1.toNat := by rw [e32]
          have cj2 : (F Y 32).toNat = n2.toNat + 1 := by rw [e32y]; omega
          generalize n1.toNat = N1 at *
          generalize n2.toNat = N2 at *
          generalize n3.toNat = N3 at *
          have bp3 : 0 ≤ p3 + 1 ∧ p3 + 1 < 4002 := by omega
          clear fs1 fs4 fs5 ltp ltp2 ltp3 z2 z3 z5 rn1 rn2 rn3 rj rB m0Z e32n e32Z e32z ct
          have v72 := eqWX.2.2.2.2.2.2.2.2.1 w1
          have v66 := eqWX.2.2.2.2.2.2.2.2.2 w2
          have e72 := equX.2.2.2.2.2.2.2.2.1 w1
          have e66 := equX.2.2.2.2.2.2.2.2.2 w2
          have b72 := eqxX.2.2.2.2.2.2.2.2.1 w1
          have b66 := eqxX.2.2.2.2.2.2.2.2.2 w2
          obtain ⟨μ, rr, a1, mm, X1, Y1, ch, ⟨o1, o2, mk, m1⟩, rl, lk, g1, g2, g4, g5⟩ := b12 v72 v66 w3
          obtain ⟨mm2, X2, Y2, sq2, t1, t2, t3, t4⟩ := x8 e72 e66 w3
          obtain ⟨mm3, X3, Y3, sq3, r1, r2, r3, r4⟩ := y10 b72 b66 w3
          have m00 : μ 0 0 = j + 2 := o2.2.1
          have mk0 : μ k 0 = N1 := by rw [mk]; exact cj1
          have chx := CHD_eqx ch eqWX (by omega) (fun i => by rw [mk]; exact Nat.le_refl _)
          have rlx := RLS_eqx ch rl eqWX (by omega) (fun i => by rw [mk]; exact Nat.le_refl _)
          have nmu : A u 60 σ = ((nmo σ u : Nat) : Int) := by unfold nmo; omega
          have nW : nmo σ W = nmo σ u := by unfold nmo; rw [w60]
          have nZ : nmo σ Z = nmo σ u := by unfold nmo; rw [z60]
          have nB : (A u 60 σ).toNat = nmo σ u := rfl
          have hl1 := eqWX.2.2.2.2.2.2.1
          have hl2 := equX.2.2.2.2.2.2.1
          have hl3 := eqxX.2.2.2.2.2.2.1
          rw [nW, mk3, ← mk] at sq2
          rw [nZ, nB, mk16] at sq3
          have sqA := SEQ_eqx (SEQ_ro (R2 := fun _ => False) sq2 (fun _ z => absurd z id) (fun i hi => Or.inr (by rw [hi]; exact x6.2.2.2))) equX (by have := (CHD_le ch k 0 (by omega) 0); rw [Nat.zero_add] at this; omega) (fun i => Nat.le_refl _)
          have y32 : mks Y 0 = N2 + 1 := cj2
          have sqB := SEQ_eqx sq3 eqxX (by omega) (fun i => Nat.le_refl _)
          have kjx : KND X j 26 := by
            unfold KND at b7 ⊢
            rw [lowv 23 j (by decide) (by omega) (fun z => absurd z (by decide)) (fun z => absurd z (by decide)) (fun z => absurd z (by decide)) (fun z => absurd z (by decide)), lowv 24 j (by decide) (by omega) (fun z => absurd z (by decide)) (fun z => absurd z (by decide)) (fun z => absurd z (by decide)) (fun z => absurd z (by decide)), lowv 28 j (by decide) (by omega) (fun z => absurd z (by decide)) (fun _ => by omega) (fun z => absurd z (by decide)) (fun z => absurd z (by decide)), lowv 29 j (by decide) (by omega) (fun z => absurd z (by decide)) (fun z => absurd z (by decide)) (fun z => absurd z (by decide)) (fun z => absurd z (by decide))]
            exact b7
          have h25j : A X 25 j = ((μ k 0 : Nat) : Int) := by
            rw [lowr 25 j (by decide) (by omega) (fun z => absurd z (by decide)) (fun z => absurd z (by decide)) (fun z => absurd z (by decide)), x3.2.1.1 25 j (by decide) (by omega), g25, mk0]
            omega
          have lw : ∀ r, r ∈ [23, 24, 25, 27, 29] → A X r (j + 1) = A V r (j + 1) := fun r hr => by
            have : ∀ r, r ∈ [23, 24, 25, 27, 29] → r ∈ [23, 24, 25, 26, 27, 28, 29, 30, 31] ∧ r ≠ 26 ∧ r ≠ 28 ∧ r ≠ 31 := by decide
            obtain ⟨q1, q2, q3, q4⟩ := this r hr
            exact lowv r _ q1 (by omega) (fun z => absurd z q2) (fun z => absurd z q3) (fun z => absurd z q4) (fun _ => by omega)
          have kfx : KND X N2 28 := by
            unfold KND
            rw [nod 23 (by decide), nod 24 (by decide), nod 29 (by decide), xq 28 _ (by omega) (fun z => absurd z (by decide)), ye 28 _ (by decide) (by omega) (fun _ => by omega), i28]
            exact ⟨n12.1, n12.2.1, n12.2.2.1, rfl, n12.2.2.2.2.1⟩
          have on3' : ONE (mks xb) (mks X) N3 := by
            have q : mks (nx1 xb) = mks xb := wi_mks (by decide)
            rw [q] at on3
            exact on3
          have chx' : CHD X SN false ((j + 1 : Nat) : Int) k μ rr 1 (nmo σ u) (max mm (max mm2 mm3)) (max X1 (max X2 X3)) (max Y1 (max Y2 Y3)) (hlo σ X) := ⟨fun i hi => PTD_mo (chx.1 i hi) mx3l.1 mx3l.1 mx3l.1 hl1.1, chx.2⟩
          have hdk : HDK X k (j + 1) (μ 0 1) := by
            unfold HDK
            rw [lw 25 (by decide)]
            rcases HID_out b11 with z | z
            · exact Or.inl ⟨z.1, z.2.1⟩
            · exact Or.inr ⟨z.1, by rw [z.2.1, m1]; omega⟩
          have hdq : HDQ X k rr e := by
            unfold HDQ
            rw [a29e]
            rcases HID_out b11 with z | z
            · exact Or.inl ⟨z.1, z.2.2⟩
            · exact Or.inr ⟨z.1, lk z.1⟩
          have sq := SEQ_recv1 (w := X) (n := j + 1) (a := mks u) (z := mks X) (lo := nmo σ u) (e := N3) o1 o2 chx' (SEQ_mo sqA (Nat.le_refl _) mx3l.2.1 mx3l.2.1 mx3l.2.1 hl2.1) on12 (SEQ_mo sqB (Nat.le_refl _) mx3l.2.2 mx3l.2.2 mx3l.2.2 hl3.1) on3' kjx h25j (by rw [lw 23 (by decide), lw 24 (by decide), lw 29 (by decide)]; exact b8) hdk (by rw [j7]; omega) (by rw [lw 27 (by decide), b9]; exact nmu) (by rw [xq 31 _ (by omega) (fun z => absurd z (by decide)), ye 31 _ (by decide) (by omega) (fun z => absurd z (by decide)), h16 31 _ (by decide) (by decide), m12]; omega) (by rw [xq 28 _ (by omega) (fun z => absurd z (by decide))]; exact ye2) kfx (by rw [nod 25 (by decide)]; exact o25) (by rw [nod 27 (by decide), o27]; exact nmu) (by rw [xq 26 _ (by omega) (fun _ => by omega), ye 26 _ (by decide) (by omega) (fun z => absurd z (by decide)), i26]; omega) ⟨j3, by omega, by omega, j6⟩ x28 rlx hdq (Nat.le_refl _)
          refine ⟨max mm (max mm2 mm3), max X1 (max X2 X3), max Y1 (max Y2 Y3), sq, mx3n g1.1 t1 r1, mx3 (by omega) (by omega) (by omega), mx3' (by omega) (by omega) (by omega), mx3o (by omega) (by omega) (by omega)⟩
      · have s5 : FSM u0 TN σ D v2 := FSM_of (ST_67 y1 h3) (by omega) (by omega) fs5.1 h4
        exact ok_mono (join_F (N := N) (S := S) (R0 := j + 1) hT (by omega) s5 (by omega)) (fun x t hx => Or.inr (FSM_mo hx (by omega)))
    · have s5 : FSM u0 TN σ (D + 1) v3 := FSM_of (ST_67 s12 h3) (by omega) (by omega) fs4.1 h4
      exact ok_mono (rcB_F (N := N) (R0 := j + 1) hT (by omega) (by omega) hbn s5 (by omega) (by omega)) (fun x t hx => Or.inr (FSM_mo hx (by omega)))
  · have n0 := h8.2.2.2.2.1
    have p0 := h8.2.2.1
    refine k_node (k := 28) (t := F u8 69) rfl (by decide) I_F (by omega) (by omega) (fun u9 h9 => ?_)
    have s9 : FSM u0 TN σ (D + 1) u9 := FSM_nd h8 h9.1
    exact ok_mono (rcA_F (N := N) (R0 := j + 1) hT (by omega) (by omega) hbn s9 (by omega) (by omega)) (fun x t hx => Or.inr (FSM_mo hx (by omega)))
end
end
