section
variable {u0 : MS} {N TN SN : Nat} {bw : Nat → Nat} {o D : Int} {S : SG_M_behind}
set_option maxRecDepth 100000 in
theorem fun_ok (tk : TKW u0 TN SN bw) (hN : 20000 ≤ N) (hD : 0 ≤ D ∧ D ≤ 2890) (ho : 1 ≤ o ∧ o ≤ 25) (hcl : XCL u0 TN SN bw D o S.2.2.2.2.2.2.2.2.2.2.2.2.2.2.2.2) : XBL u0 TN SN bw (D + 10) o (fun u => IW u 7) (fm_M_fun N S) := by
  intro u σ p n q c f h s wt hs hf iw hm1 hl
  have hT := tk.1.1
  have hm := NM_j hm1
  have fs := NM_fs hm (by omega)
  have ev := ST_IW hs iw
  have ltp := tok_lt tk (by omega) (show ¬ (A u0 6 (p).toNat = 0 ∨ A u0 6 (p).toNat = 7) by omega)
  have ni : ¬ IW u 9 := fun y => by
    have := ST_IW hs y
    omega
  have hσ : σ ≤ 24 := by unfold NM at hm1; omega
  have hb1 : 0 ≤ c ∧ c < 1399 ∧ 0 ≤ f ∧ f ≤ c ∧ 0 ≤ h ∧ 0 ≤ q := by unfold NM at hm; omega
  have s1 := ST_nx hs (by omega)
  have k1 : KPR σ u (nx1 u) := KPR_w0 KPR_rf (by decide)
  have e69 : F (nx1 u) 69 = p + 1 := s1.2.1.1
  have e56 : F (nx1 u) 56 = f := s1.2.1.2.2.2.2.2.1
  have f1 : F (nx1 u) 67 = 0 := (wi_ne (by decide)).trans hf
  have u32 : F u 32 = n := hs.2.1.2.2.1
  have u56 : F u 56 = f := hs.2.1.2.2.2.2.2.1
  have exit : ∀ {x r} {d : Int}, d ≤ 10 → EXQ u0 TN SN bw σ (o - 1) p o n q c f h s wt 0 u x r ∨ FSM u0 TN σ (D + d) x → (EXQ u0 TN SN bw σ (o - 1) p o n q c f h s wt 0 u x r ∧ ¬ IW u 9) ∨ FSM u0 TN σ (D + 10) x := fun hd y => by
    rcases y with y | y
    · exact Or.inl ⟨y, ni⟩
    · exact Or.inr (FSM_mo y (by omega))
  unfold fm_M_fun fb_M_fun_0
  rw [nx1_e]
  refine ok_lt.mpr (k_at (k := 6) (n := 4002) rfl (by decide) (by omega) ?_)
  refine k_A (y := 1) rfl ⟨by decide, by decide⟩ (fun y => ?_) (fun _ => ?_)
  · rw [tn_F, e69, ST_A s1 (by decide)] at y
    have ltp2 := tok_lt tk (by omega) (show ¬ (A u0 6 (p + 1).toNat = 0 ∨ A u0 6 (p + 1).toNat = 7) by omega)
    rw [nx1_e, I_F' e69]
    refine ok_lt.mpr (ok_mono (refer_ok (D := D + 1) tk (by omega) hs hf hm hl ltp2 (by omega)) (fun x r hx => exit (d := 1) (by omega) hx))
  · have e56' : (nx1 u).1 56 + 1 = I (f + 1) := by rw [I_F' e56, lit1q, I_add]
    rw [e56', I_F' e56, wi_e]
    refine ok_lt.mpr ?_
    have s2 : ST u0 σ (p + 1) o n q c (f + 1) h s wt 0 (wi (nx1 u) 56 (f + 1)) := ST_56 s1 ⟨by omega, by omega⟩
    have k2 : KPR σ u (wi (nx1 u) 56 (f + 1)) := KPR_wi k1 (by decide) (by omega) ⟨by omega, by omega⟩
    have a2 : ∀ r i, A (wi (nx1 u) 56 (f + 1)) r i = A u r i := fun _ _ => rfl
    have f2 : F (wi (nx1 u) 56 (f + 1)) 67 = 0 := (wi_ne (by decide)).trans f1
    have m2 : mks (wi (nx1 u) 56 (f + 1)) 0 = mks u 0 ∧ mks (wi (nx1 u) 56 (f + 1)) 1 = mks u 1 ∧ mks (wi (nx1 u) 56 (f + 1)) 3 = mks u 3 + 1 := by
      refine ⟨?_, ?_, ?_⟩
      · show (F (wi (nx1 u) 56 (f + 1)) 32).toNat = (F u 32).toNat
        rw [wi_ne (by decide)]; unfold nx1; rw [wi_ne (by decide)]
      · show (F (wi (nx1 u) 56 (f + 1)) 46).toNat = (F u 46).toNat
        rw [wi_ne (by decide)]; unfold nx1; rw [wi_ne (by decide)]
      · show (F (wi (nx1 u) 56 (f + 1)) 56).toNat = (F u 56).toNat + 1
        rw [wi_eq ⟨by omega, by omega⟩, u56]; omega
    generalize wi (nx1 u) 56 (f + 1) = W at *
    have w32 : F W 32 = n := s2.2.1.2.2.1
    refine k_node (k := 26) (t := p) rfl (by decide) rfl (by omega) (by omega) (fun v hv => ?_)
    rw [w32]
    have nd := hv.1
    have s3 := ST_nd s2 nd (by omega) (by omega) (fun z => by omega)
    have k3 : KPR σ u v := KPR_nd k2 nd (by omega)
    have v65 : F v 65 = σ := s3.2.1.2.2.2.2.2.2.2.2.2.2.2
    have nn : NEWN v n.toNat 26 := by
      have := NEWN_of hv (by omega)
      rw [w32] at this
      exact this
    have on : ONE (mks W) (mks v) n.toNat := by
      have := ONE_nd nd (by omega)
      rw [w32] at this
      exact this
    have v67 : F v 67 = 0 := (nd.1.F (by decide)).trans f2
    have z0 : ∀ (w : MS) (k i : Nat), upA w k (upd (w.2.2.1 k) i 0) = wa w k i 0 := fun _ _ _ => rfl
    have e65 : v.1 65 + 1 = I ((σ : Int) + 1) := by rw [I_F' v65, lit1q, I_add]
    rw [e65, wi_e]
    have g65 : F (wi v 65 ((σ : Int) + 1)) 65 = (σ : Int) + 1 := wi_eq ⟨by omega, by omega⟩
    refine ok_lt.mpr (k_at (k := 60) (n := 27) rfl (by decide) (by omega) (ok_lt.mpr ?_))
    rw [I_F' g65, I_tn (x := (σ : Int) + 1) (by omega) (by omega), z0, show ((σ : Int) + 1).toNat = σ + 1 by omega]
    have g65b : F (wa (wi v 65 ((σ : Int) + 1)) 60 (σ + 1) 0) 65 = (σ : Int) + 1 := by rw [F_wa]; exact g65
    refine k_at (k := 63) (n := 27) rfl (by decide) (by omega) (ok_lt.mpr ?_)
    rw [I_F' g65b, I_tn (x := (σ : Int) + 1) (by omega) (by omega), z0, show ((σ : Int) + 1).toNat = σ + 1 by omega]
    have g65c : F (wa (wa (wi v 65 ((σ : Int) + 1)) 60 (σ + 1) 0) 63 (σ + 1) 0) 65 = (σ : Int) + 1 := by rw [F_wa]; exact g65b
    refine k_at (k := 64) (n := 27) rfl (by decide) (by omega) (ok_lt.mpr ?_)
    rw [I_F' g65c, I_tn (x := (σ : Int) + 1) (by omega) (by omega), z0, show ((σ : Int) + 1).toNat = σ + 1 by omega]
    have eU : wa (wa (wa (wi v 65 ((σ : Int) + 1)) 60 (σ + 1) 0) 63 (σ + 1) 0) 64 (σ + 1) 0 = scU v σ := rfl
    rw [eU]
    have s4 := ST_up s3 (by omega)
    have k4 : KPR σ u (scU v σ) := KPR_tr k3 (KPR_up (by omega))
    have w60 : A (scU v σ) 60 σ = A u 60 σ := by rw [scU_A (Or.inr (by omega)), nd.1.A (by decide)]; exact a2 60 σ
    have kj : KND (scU v σ) n.toNat 26 := by
      unfold KND
      rw [scU_A (Or.inl (by decide)), scU_A (Or.inl (by decide)), scU_A (Or.inl (by decide)), scU_A (Or.inl (by decide))]
      exact ⟨nn.1, nn.2.1, nn.2.2.1, nn.2.2.2.1, nn.2.2.2.2.1⟩
    have m4 : mks (scU v σ) = mks v := mks_c (fun k hk => scU_F (by
      have : ∀ k, k ∈ [32, 39, 46, 56, 58] → k ≠ 65 := by decide
      exact this k hk))
    have mw : mks (scU v σ) 0 = n.toNat + 1 ∧ mks (scU v σ) 1 = mks u 1 ∧ mks (scU v σ) 3 = mks u 3 + 1 ∧ ∀ i, mks u i ≤ mks (scU v σ) i := by
      refine ⟨?_, ?_, ?_, fun i => ?_⟩
      · rw [m4]; exact on.2.1
      · rw [m4, on.2.2.1]; exact m2.2.1
      · rw [m4, on.2.2.2.1]; exact m2.2.2
      · have kk := k4.2.2.2.2.1
        unfold mks
        split
        · omega
        · split
          · omega
          · split
            · omega
            · split
              · omega
              · omega
    have f4 : F (scU v σ) 67 = 0 := (scU_F (by decide)).trans v67
    have nm4 : NM TN bw 0 0 0 (σ + 1) (p + 1) o (n + 1) q c f h s wt := by
      have b1 := bw_mono tk (i := p.toNat) (m := (p + 1).toNat) (by omega) (by omega)
      have b2 := bw_top tk (i := (p + 1).toNat) (by omega)
      unfold NM at hm1 ⊢
      omega
    have c60 := scU_60 (u := v) (σ := σ)
    generalize scU v σ = V at *
    refine ok_bnd.mpr (ok_mono (hcl V (σ + 1) _ _ _ _ _ f _ _ _ p s4 f4 ⟨c60, by omega, by omega, by omega, by omega⟩ nm4) (fun x r hx => ?_))
    obtain ⟨hr, hx⟩ := hx
    rw [hr]
    have jn : (I n : Int32) = I ((n.toNat : Nat) : Int) := by rw [show ((n.toNat : Nat) : Int) = n by omega]
    have bad : ∀ y, FSM u0 TN (σ + 1) D y → OK (fun x r => (EXQ u0 TN SN bw σ (o - 1) p o n q c f h s wt 0 u x r ∧ ¬ IW u 9) ∨ FSM u0 TN σ (D + 10) x) (ck (inb (y.1 65) (ln 64)) (ck (inb (y.1 65) (ln 63)) (br (decide (((y.2.2.1 64 (y.1 65).toNatClampNeg) + (y.2.2.1 63 (y.1 65).toNatClampNeg)) ≤ 40)) (fb_M_fun_221 N S (gg_M_fun N S N) y (I p) (I f) (I n) (I c)) (lt (upI y 66 1) (fun w23 => fb_M_fun_221 N S (gg_M_fun N S N) w23 (I p) (I f) (I n) (I c)))))) := fun y hy => by
      have y65 : F y 65 = ((σ + 1 : Nat) : Int) := hy.2.2.2.1
      refine k_at (k := 64) (n := 27) rfl (by decide) (by omega) (k_at (k := 63) (n := 27) rfl (by decide) (by omega) (ok_br.mpr ⟨fun _ => ?_, fun _ => ok_lt.mpr ?_⟩))
      · rw [jn]
        exact ok_mono (f221_F (by omega) hT (by omega) (by omega) hy (by omega) (by omega) (by omega)) (fun x r hx => Or.inr (FSM_mo hx (by omega)))
      · rw [jn, lit1q, wi_e]
        exact ok_mono (f221_F (by omega) hT (by omega) (by omega) (FSM_wi hy (by decide)) (by omega) (by omega) (by omega)) (fun x r hx => Or.inr (FSM_mo hx (by omega)))
    rcases hx with ⟨x0, p2, n2, q2, c2, f2', h2, x1, x2, x3, ⟨x4, x5, x6⟩, x7, x8⟩ | hx
    · have x69 : F x 69 = p2 := x1.2.1.1
      have nb := fun_nb tk (by omega) hm x4
      refine k_needWord (s := 6) rfl ⟨by decide, by decide⟩ (by omega) (fun _ zz => ?_) (fun v2 h3 h4 => bad v2 (FSM_of (ST_67 x1 h3) (by omega) (by omega) (by omega) h4))
      have z2 := ST_IW x1 zz
      have ltp3 := tok_lt tk (by omega) (show ¬ (A u0 6 (p2).toNat = 0 ∨ A u0 6 (p2).toNat = 7) by omega)
      have s5 := ST_nx x1 (by omega)
      have y65 : F (nx1 x) 65 = ((σ + 1 : Nat) : Int) := s5.2.1.2.2.2.2.2.2.2.2.2.2.2
      have y64 : (nx1 x).2.2.1 64 ((nx1 x).1 65).toNatClampNeg = I (A x 64 (σ + 1)) := by
        rw [tn_F, y65, show (((σ + 1 : Nat) : Int)).toNat = σ + 1 by omega]; exact I_A
      have y63 : (nx1 x).2.2.1 63 ((nx1 x).1 65).toNatClampNeg = I (A x 63 (σ + 1)) := by
        rw [tn_F, y65, show (((σ + 1 : Nat) : Int)).toNat = σ + 1 by omega]; exact I_A
      have sc := (x1.2.2.2.1 (σ + 1) (Nat.le_refl _)).1
      refine k_at (k := 64) (n := 27) rfl (by decide) (by omega) (k_at (k := 63) (n := 27) rfl (by decide) (by omega) ?_)
      rw [y64, y63, I_add, jn]
      refine k_le (x := A x 64 (σ + 1) + A x 63 (σ + 1)) (y := 40) ⟨by omega, by omega⟩ ⟨by decide, by decide⟩ (fun yy => ?_) (fun yy => ok_lt.mpr ?_)
      · exact ok_mono (f221_t tk (by omega) (by omega) hσ hs hl hm ev s4 k4 w60 kj mw x1 x2 x4 x5 ⟨by omega, ltp3⟩ x8 x0 z2 (Or.inl rfl) (fun _ => ⟨rfl, yy⟩)) (fun x r hx => Or.inl ⟨hx, ni⟩)
      · rw [lit1q, wi_e]
        exact ok_mono (f221_t tk (by omega) (by omega) hσ hs hl hm ev s4 k4 w60 kj mw x1 x2 x4 x5 ⟨by omega, ltp3⟩ x8 x0 z2 (Or.inr rfl) (fun y => by
          have : F (wi (nx1 x) 66 1) 66 = 1 := wi_eq ⟨by decide, by decide⟩
          omega)) (fun x r hx => Or.inl ⟨hx, ni⟩)
    · refine k_needWord (s := 6) rfl ⟨by decide, by decide⟩ (FSM_p hx hT) (fun z _ => absurd z hx.2.1) (fun v2 h3 h4 => bad v2 (FSM_67 hx h3 h4))
end
