section
variable {Fv : Int64 → Int64 → Prop} {P P2 : Int64 → Prop} {u v w w2 x y : MS} {PR PR2 N p n n2 opM bnM bxM bx2 ND fr k tp mu CN PN SN UN FN rq q m h mm AN z j : Nat} {ow kd ow2 kd2 ro rn rh cb pc ct pM pE : Nat → Nat} {T : TY} {C : CY}
theorem one_ok {kk : Int} (a : ATQ Fv (PQ AN PR) PR T ND p u fr ro rn rh cb pc ct q n ow kd bxM) (h109 : A u 109 p = 0) (hm : MODE u T C ND CN p (ro (fr - 1)) (rn (fr - 1)) (rh (fr - 1)) (sR T pc (fr - 1)) q bxM mu) (hAN : 22 ≤ AN) (hA2 : AN ≤ 3000) (hA : F u 14 = ((AN : Nat) : Int)) (hp' : PGM Fv (PQ AN PR) PR T C pM pE ND CN PN SN UN FN u) (hfv : FVW Fv u UN FN) (hw : WLD u T ND UN FN PR p) (hE : F u 149 = F u 150 ∧ F u 151 = 0) (hkk : A u 23 q = kk) (hN : 11000000 ≤ N) : OK (fun y _ => RSW Fv AN T C ND CN UN FN p mu u y) (fm_M_one N u (I q) (I kk)) := by
  obtain ⟨i, hF, a98, a4, a5, a6⟩ := id a
  have x4 := MEI_p i
  have hT := PRG_26 hp'.1
  have nd := hp'.1.1.1
  have hf := hF.1
  obtain ⟨nw, wa', -⟩ := hp'.1.2.2.1 q a4
  have k1 := nw.2.2.2.2.2.2.2.2.1
  have k2 := nw.2.2.2.2.2.2.2.2.2.1
  have k3 := nw.2.2.2.2.2.2.2.2.2.2.1
  have k4 := nw.2.2.2.2.2.2.2.2.2.2.2.1
  have k5 := nw.2.2.2.2.2.2.2.2.2.2.2.2.1
  have fin : ∀ y, RES Fv (PQ AN PR) PR T C ND CN p mu u y → RSW Fv AN T C ND CN UN FN p mu u y := fun y hy => RES_rsw hy hw hT i.2.1
  have dk : ∀ c : Int, 0 ≤ c → c < 100 → decide (I kk = I c) = decide (kk = c) := fun c h1 h2 => decE (by omega) (by omega) (by omega) (by omega)
  have y75 : ∀ (s many r c : Nat), ((s = 1 ∧ many = 1 ∧ tB T q + 1 ≤ tH T q) ∨ (s = 2 ∧ many = 0)) → tG T q = 0 → A u 27 q = ((tM T q : Nat) : Int) → A u 25 q = ((c : Nat) : Int) → r < tR T q → CLS C u CN many (tH T q) (tH T q - many) (tM T q) (tL T q) (tK T q) (tC T q) r ((c : Nat) : Int) → OK (fun y _ => RSW Fv AN T C ND CN UN FN p mu u y) (fb_M_one_92 N () u (I q) (I ((60 * p + (fr - 1) : Nat) : Int)) (I s)) := fun s many r c hs hG h27 h25 hr hc => ok_mono (i21 (N := N) a h109 hm hp' hG h27 h25 hs hr hc hE (by omega)) (fun y _ hy => fin y hy)
  unfold fm_M_one fb_M_one_0
  refine ok_br.mpr ⟨fun z => ?_, fun z12 => ok_br.mpr ⟨fun z => ?_, fun z13 => ok_br.mpr ⟨fun z => ?_, fun z27 => ok_br.mpr ⟨fun z => ?_, fun z21 => ok_br.mpr ⟨fun z => ?_, fun z31 => ok_br.mpr ⟨fun z => ?_, fun z29 => ?_⟩⟩⟩⟩⟩⟩
  · have e := of_decide_eq_true ((dk 12 (by omega) (by omega)).symm.trans z)
    unfold fb_M_one_12
    rw [e]
    exact ok_bnd.mpr (ok_mono (i12 (N := N) a h109 hm hAN hp' hfv hw hE (by omega) hN) (fun y _ hy => ok_some.mpr hy))
  · have e := of_decide_eq_true ((dk 13 (by omega) (by omega)).symm.trans z)
    unfold fb_M_one_12
    rw [e]
    exact ok_bnd.mpr (ok_mono (i13 (N := N) a h109 hm hp' hfv hw hE (by omega) (by omega)) (fun y _ hy => ok_some.mpr hy))
  · have e := of_decide_eq_true ((dk 27 (by omega) (by omega)).symm.trans z)
    have hG := (wa'.2.2.2.2.2.2.2.2.2.2.2.1 (by omega)).1
    obtain ⟨-, y2, y3⟩ : tG T q = 0 ∧ F u 152 = 0 ∧ CLG u (sR T pc (fr - 1) + tR T q) 0 mu := by
      rcases hm with y | ⟨y1, c, s, many, hg, hb', mm', r, t1, t2, -⟩
      · exact y
      · omega
    clear hm wa'
    rw [I_F' i.2.2.1]
    refine ok_ck.mpr ⟨inb_at (k := 110) (n := 24) rfl (by omega) (by omega) (by decide), ok_lt.mpr ?_⟩
    rw [I_tn (x := (p : Int)) (by omega) (by omega), Int.toNat_natCast, lit0q, wa_e]
    have f1 : FR [] [] [110] [111] u (wa u 110 p 0) := FR.wa FR.rf (by decide)
    have o1 : OTF p u (wa u 110 p 0) := OTF_110 (by omega) (by omega)
    have e110 : 0 ≤ A (wa u 110 p 0) 110 p := by rw [A_eq (by omega) (by omega), if_pos rfl]; omega
    generalize wa u 110 p 0 = w at *
    have go : ∀ x, FR [] [] [110] [111] u x → OTF p u x → 0 ≤ A x 110 p → (A x 31 q = -1 → x.2.2.2 111 p = -1) → OK (fun y _ => RSW Fv AN T C ND CN UN FN p mu u y) (fb_M_one_57 N () x (I q)) := fun x fx ox h110 h111 => by
      unfold fb_M_one_57
      exact ok_bnd.mpr (ok_mono (goOnWith_ok (N := N) (mu := mu) (C := C) (CN := CN) (ATQ_fr a fx (by decide) (by decide) (by decide)) (by rw [FR.A fx (by decide)]; exact h109) (by rw [FR.F fx (by decide)]; exact y2) (by unfold CLG; rw [FR.F fx (by decide), FR.F fx (by decide)]; exact y3) (PGM_fr hp' fx (by decide) (by decide)) hG (by rw [FR.A fx (by decide)]; omega) h111 h110 (by rw [FR.F fx (by decide), FR.F fx (by decide), FR.F fx (by decide)]; exact hE) (by omega)) (fun y _ hy => ok_some.mpr (RES_via fx ox hy hw hT i.2.1 (by decide) (by decide) (by decide) (by decide) (by decide) (by decide))))
    refine ok_ck.mpr ⟨inb_at (k := 31) (n := 16000) rfl (by omega) (by omega) (by decide), ?_⟩
    have r31 := A_r w 31 q
    rw [I_tn (x := (q : Int)) (by omega) (by omega), Int.toNat_natCast, I_A (k := 31), litm1q, decE r31.1 r31.2 (by omega) (by omega)]
    refine ok_br.mpr ⟨fun _ => ?_, fun zn => go w f1 o1 e110 (fun z => absurd z (of_decide_eq_false zn))⟩
    have w133 : F w 133 = p := by rw [FR.F f1 (by decide)]; exact i.2.2.1
    rw [I_F' w133]
    refine ok_ck.mpr ⟨inb_at (k := 111) (n := 24) rfl (by omega) (by omega) (by decide), ok_lt.mpr ?_⟩
    rw [I_tn (x := (p : Int)) (by omega) (by omega), Int.toNat_natCast, wj_e]
    exact go _ (FR.wj f1 (by decide)) (OTF.tr o1 OTF_111) e110 (fun _ => by rw [J_wj, if_pos rfl, if_pos rfl])
  · have e := of_decide_eq_true ((dk 21 (by omega) (by omega)).symm.trans z)
    obtain ⟨w1, w2, w3, r, w4, w5⟩ := wa'.2.2.2.2.2.2.2.2.2.1 (by omega)
    have w5' := w5
    obtain ⟨c, c1, -⟩ := w5'
    unfold fb_M_one_75
    rw [frame0_x (fr := fr) i.2.2.1 x4 hf.2.2 ⟨hf.1, hf.2.1⟩, bnd_so, z, br_tq]
    exact y75 1 1 r c (Or.inl ⟨rfl, rfl, w2⟩) w1 w3 c1 w4 (by rw [← c1]; exact w5)
  · have e := of_decide_eq_true ((dk 31 (by omega) (by omega)).symm.trans z)
    obtain ⟨w1, w3, r, w4, w5⟩ := wa'.2.2.2.2.2.2.2.2.2.2.1 (by omega)
    have w5' := w5
    obtain ⟨c, c1, -⟩ := w5'
    unfold fb_M_one_75
    rw [frame0_x (fr := fr) i.2.2.1 x4 hf.2.2 ⟨hf.1, hf.2.1⟩, bnd_so, z21, br_fq]
    exact y75 2 0 r c (Or.inr ⟨rfl, rfl⟩) w1 w3 c1 w4 (by rw [← c1, Nat.sub_zero]; exact w5)
  · have e := of_decide_eq_true ((dk 29 (by omega) (by omega)).symm.trans z)
    obtain ⟨w1, w2, w3, w4⟩ := wa'.2.2.2.2.2.2.2.2.2.2.2.2.2.1 (by omega)
    exact ok_bnd.mpr (ok_mono (returns_ok (N := N) a h109 hm hp' w1 w2 w3 w4) (fun y _ hy => ok_some.mpr (fin y hy)))
  · have n12 := of_decide_eq_false ((dk 12 (by omega) (by omega)).symm.trans z12)
    have n13 := of_decide_eq_false ((dk 13 (by omega) (by omega)).symm.trans z13)
    have n27 := of_decide_eq_false ((dk 27 (by omega) (by omega)).symm.trans z27)
    have n21 := of_decide_eq_false ((dk 21 (by omega) (by omega)).symm.trans z21)
    have n31 := of_decide_eq_false ((dk 31 (by omega) (by omega)).symm.trans z31)
    have n29 := of_decide_eq_false ((dk 29 (by omega) (by omega)).symm.trans z29)
    have nq : q + 1 < ND := k5 (by omega)
    rw [show I (q : Int) + 1 = I ((q + 1 : Nat) : Int) from by rw [lit1q, I_add]; rfl]
    refine ok_bnd.mpr (ok_mono (at_node (N := N) (x := q + 1) a h109 hm (by omega) hp'.1) (fun v _ hv => ?_))
    obtain ⟨v1, v2, v3, v4⟩ := hv
    exact ok_mono (one_b (N := N) v1 (PGM_fr hp' v3 (by decide) (by decide)) (by rw [FR.F v3 (by decide)]; exact hA) hA2 (FVW_fr hfv v3 (by decide)) (WLD_fr hw hT v4 v3 (by decide) (by decide) (fun z _ => Or.inl (FR.A v3 (by decide)))) v2 (by rw [FR.A v3 (by decide)]; exact hkk) (by omega) (by omega) nq hN) (fun y _ hy => RSW.pre (FR.mo v3 (by decide) (by decide) (by decide) (by decide)) hy)
end
