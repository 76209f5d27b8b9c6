section
variable {Q : MS → Int32 → Prop} {u0 u v w x V X : MS} {N σ TN SN e j k n0 R0 : Nat} {bw : Nat → Nat} {p o n q c f h s wt g D d B l z t p1 n1 q1 c1 f1 h1 a : Int} {r v2 v3 v4 : Int32} {S : SG_M_behind} {G : MS → Int32 → Int32 → Int32 → Int32 → Option (MS × Int32)}
theorem f69_ok (hs : ST u0 σ p o n q c f h s wt g u) (hp : 0 ≤ p ∧ p ≤ 4000) (hn : 0 ≤ n ∧ n < 15999) (ht : 0 ≤ t ∧ t < 4002) (a : ∀ v y1 y2, NDV u v 15 t → Q (nx1 (wa (wa v 25 n.toNat y1) 26 n.toNat y2)) (I n)) : OK Q (fb_M_fun_69 N S G u (I t)) := by
  have e69 : F u 69 = p := hs.2.1.1
  have e32 : F u 32 = n := hs.2.1.2.2.1
  unfold fb_M_fun_69
  refine k_node (k := 15) (t := t) rfl (by decide) rfl ht (by omega) (fun v hv => ?_)
  rw [e32]
  have v69 : F v 69 = p := (hv.1.1.F (by decide)).trans e69
  refine k_in (k := 7) (n := 4002) rfl (by decide) (by omega) (k_in (k := 25) (n := 16000) rfl (by decide) (by omega) (ok_lt.mpr ?_))
  rw [I_tn (x := n) (by omega) (by omega), I_A (k := 7), wa_e]
  refine k_at (k := 7) (n := 4002) rfl (by decide) (by rw [F_wa]; omega) (k_in (k := 26) (n := 16000) rfl (by decide) (by omega) (ok_lt.mpr (ok_lt.mpr ?_)))
  rw [I_A (k := 7), wa_e, nx1_e]
  exact ok_some.mpr (a v _ _ hv)
theorem ST_ref {v : MS} {y1 y2 : Int} (hs : ST u0 σ p o n q c f h s wt g u) (hp : 0 ≤ p ∧ p ≤ 4000) (hn : 0 ≤ n) (ht : 0 ≤ t ∧ t < 4002) (hv : NDV u v 15 t) : ST u0 σ (p + 1) o (n + 1) q c f h s wt g (nx1 (wa (wa v 25 n.toNat y1) 26 n.toNat y2)) := by
  have e32 : F u 32 = n := hs.2.1.2.2.1
  refine ST_nx (ST_wa (ST_wa25 (ST_nd hs hv.1 ht hn (fun z => by omega)) ?_) (by decide)) (by omega)
  rw [← e32, hv.1.2.2.1]; decide
theorem refer_ok (tk : TKW u0 TN SN bw) (ho : 0 ≤ o ∧ o ≤ 25) (hs : ST u0 σ p o n q c f h s wt 0 u) (hf : F u 67 = 0) (hm : NM TN bw 0 0 0 σ p o n q c f h s wt) (hl : LGS σ u) (hp : p + 1 < TN) (hD : 1 ≤ D ∧ D ≤ 2990) : OK (fun x r => EXQ u0 TN SN bw σ (o - 1) p o n q c f h s wt 0 u x r ∨ FSM u0 TN σ D x) (bnd (fm_M_needSign N (nx1 (nx1 u)) 24) (fun u25 _ => br (decide ((u25.1 67) = 0)) (ck (inb (u25.1 69) (ln 6)) (br (decide ((u25.2.2.1 6 (u25.1 69).toNatClampNeg) = 4)) (fb_M_fun_69 N S G u25 (I (p + 1))) (bnd (fm_M_wrong N u25 2) (fun u26 _ => fb_M_fun_69 N S G u26 (I (p + 1)))))) (fb_M_fun_69 N S G u25 (I (p + 1))))) := by
  have hT := tk.1.1
  have fs := NM_fs hm (by omega)
  have e32 : F u 32 = n := hs.2.1.2.2.1
  have s1 := ST_nx hs (by omega)
  have s2 := ST_nx s1 (by omega)
  rw [show p + 1 + 1 = p + 2 by omega] at s2
  have k2 : KPR σ u (nx1 (nx1 u)) := KPR_w0 (KPR_w0 KPR_rf (by decide)) (by decide)
  have e69 : F (nx1 (nx1 u)) 69 = p + 2 := s2.2.1.1
  have bad : ∀ (v : MS) (p' : Int), ST u0 σ p' o n q c f h s wt 0 v → (0 ≤ p' ∧ p' ≤ TN) → F v 67 ≠ 0 → OK (fun x r => EXQ u0 TN SN bw σ (o - 1) p o n q c f h s wt 0 u x r ∨ FSM u0 TN σ D x) (fb_M_fun_69 N S G v (I (p + 1))) := fun v p' sv hp' h67 => by
    refine f69_ok sv (by omega) (by omega) (by omega) (fun v1 y1 y2 hv1 => Or.inr ?_)
    have s3 := ST_ref (y1 := y1) (y2 := y2) sv (by omega) (by omega) (by omega) hv1
    refine FSM_of s3 (by omega) (by omega) fs.1 ?_
    have : F (nx1 (wa (wa v1 25 n.toNat y1) 26 n.toNat y2)) 67 = F v 67 := by unfold nx1; rw [wi_ne (by decide), F_wa, F_wa]; exact hv1.1.1.F (by decide)
    rw [this]; exact h67
  refine k_needSign (s := 24) rfl ⟨by decide, by decide⟩ (by omega) (fun h0 z => ?_) (fun v3 h3 h4 => ?_)
  · have z2 := ST_IS s2 z
    have ltp := tok_lt tk (by omega) (show ¬ (A u0 6 (p + 2).toNat = 0 ∨ A u0 6 (p + 2).toNat = 7) by omega)
    have s3 := ST_nx s2 (by omega)
    rw [show p + 2 + 1 = p + 3 by omega] at s3
    have k3 : KPR σ u (nx1 (nx1 (nx1 u))) := KPR_w0 k2 (by decide)
    have f3 : F (nx1 (nx1 (nx1 u))) 67 = 0 := by unfold nx1; rw [wi_ne (by decide), wi_ne (by decide), wi_ne (by decide)]; exact hf
    have mu : mks (nx1 (nx1 (nx1 u))) = mks u := by
      have a1 : mks (nx1 u) = mks u := wi_mks (by decide)
      have a2 : mks (nx1 (nx1 u)) = mks (nx1 u) := wi_mks (by decide)
      have a3 : mks (nx1 (nx1 (nx1 u))) = mks (nx1 (nx1 u)) := wi_mks (by decide)
      rw [a3, a2, a1]
    have r60 : ∀ r i, A (nx1 (nx1 (nx1 u))) r i = A u r i := fun _ _ => rfl
    generalize nx1 (nx1 (nx1 u)) = V at *
    have e69v : F V 69 = p + 3 := s3.2.1.1
    have e32v : F V 32 = n := s3.2.1.2.2.1
    refine k_F (y := 0) rfl ⟨by decide, by decide⟩ (fun _ => ?_) (fun y => absurd f3 y)
    refine k_at (k := 6) (n := 4002) rfl (by decide) (by omega) ?_
    refine k_A (y := 4) rfl ⟨by decide, by decide⟩ (fun y => ?_) (fun _ => ?_)
    · rw [tn_F, e69v, ST_A s3 (by decide)] at y
      have ltp2 := tok_lt tk (by omega) (show ¬ (A u0 6 (p + 3).toNat = 0 ∨ A u0 6 (p + 3).toNat = 7) by omega)
      refine f69_ok s3 (by omega) (by omega) (by omega) (fun v1 y1 y2 hv1 => Or.inl ?_)
      have sx := ST_ref (y1 := y1) (y2 := y2) s3 (by omega) (by omega) (by omega) hv1
      rw [show p + 3 + 1 = p + 4 by omega] at sx
      have nd := hv1.1
      have kx : KPR σ V (nx1 (wa (wa v1 25 n.toNat y1) 26 n.toNat y2)) := KPR_w0 (KPR_wn (KPR_wn (KPR_nd KPR_rf nd (by omega)) (by decide) (by omega)) (by decide) (by omega)) (by decide)
      have f7 : F (nx1 (wa (wa v1 25 n.toNat y1) 26 n.toNat y2)) 67 = 0 := by unfold nx1; rw [wi_ne (by decide), F_wa, F_wa]; exact (nd.1.F (by decide)).trans f3
      have nn : NEWN (nx1 (wa (wa v1 25 n.toNat y1) 26 n.toNat y2)) n.toNat 15 := by
        have q := NEWN_of hv1 (by omega)
        rw [e32v] at q
        have g : ∀ r, r ≠ 25 → r ≠ 26 → A (nx1 (wa (wa v1 25 n.toNat y1) 26 n.toNat y2)) r n.toNat = A v1 r n.toNat := fun r h1 h2 => by
          show A (wa (wa v1 25 n.toNat y1) 26 n.toNat y2) r n.toNat = _
          rw [wa_rne h2, wa_rne h1]
        unfold NEWN
        rw [g 23 (by decide) (by decide), g 24 (by decide) (by decide), g 28 (by decide) (by decide), g 29 (by decide) (by decide), g 30 (by decide) (by decide)]
        exact q
      have on : ONE (mks u) (mks (nx1 (wa (wa v1 25 n.toNat y1) 26 n.toNat y2))) n.toNat := by
        have q := ONE_nd nd (by omega)
        rw [e32v, mu] at q
        have a1 : mks (nx1 (wa (wa v1 25 n.toNat y1) 26 n.toNat y2)) = mks v1 := mks_c (fun k hk => by
          have : ∀ k, k ∈ [32, 39, 46, 56, 58] → k ≠ 69 := by decide
          unfold nx1; rw [wi_ne (this k hk), F_wa, F_wa])
        rw [a1]; exact q
      have x60 : A (nx1 (wa (wa v1 25 n.toNat y1) 26 n.toNat y2)) 60 σ = A u 60 σ := by
        show A (wa (wa v1 25 n.toNat y1) 26 n.toNat y2) 60 σ = _
        rw [wa_rne (by decide), wa_rne (by decide), nd.1.A (by decide)]; exact r60 60 σ
      generalize nx1 (wa (wa v1 25 n.toNat y1) 26 n.toNat y2) = X at *
      have kuX := KPR_tr k3 kx
      have lX : LGS σ X := fun y => by rw [x60]; exact hl (kuX.2.2.2.2.2.2 y)
      refine ⟨f7, p + 4, n + 1, q, c, f, h, n.toNat, by rw [show ((n.toNat : Nat) : Int) = n by omega], sx, kuX, by omega, ?_, ⟨by omega, by omega, ?_, nn.2.2.2.2.1⟩, lX, fun y1 y2 y3 => ?_⟩
      · have nu0 : nu u0 (p + 4).toNat = 0 := by
          have := nu_wd (p := p + 3) (Or.inr y) (by omega)
          rw [show p + 3 + 1 = p + 4 by omega] at this
          exact this
        have b1 := bw_mono tk (i := p.toNat) (m := (p + 4).toNat) (by omega) (by omega)
        rw [nu0]
        unfold DLT
        omega
      · exact RTD_mo 0 _ _ ⟨by omega, nn.2.2.2.1⟩ (by omega)
      · have sc := (sx.2.2.2.1 σ (Nat.le_refl σ)).1
        have l9 := lX y2
        have nX : nmo σ X = nmo σ u := by unfold nmo; rw [x60]
        have nu40 : nmo σ u ≤ 40 ∧ ((nmo σ u : Nat) : Int) ≤ A X 64 σ := by unfold nmo; omega
        refine ⟨nmo σ u, 1, 0, ?_, nu40.1, nu40.2, by omega, by omega⟩
        rw [nX]
        exact s15 on nn ⟨Nat.le_refl _, Nat.le_refl _, Nat.le_refl _⟩
    · refine k_wrong (s := 2) rfl ⟨by decide, by decide⟩ (by decide) (by omega) (fun v4 h5 h6 => ?_)
      exact bad v4 (p + 3) (ST_67 s3 h5) (by omega) h6
  · have s3 := ST_67 s2 h3
    refine k_F (y := 0) rfl ⟨by decide, by decide⟩ (fun y => absurd y h4) (fun _ => ?_)
    exact bad v3 (p + 2) s3 (by omega) h4
end
