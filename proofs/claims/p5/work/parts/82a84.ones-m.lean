section
section
variable {Fv : Int64 → Int64 → Prop} {P P2 : Int64 → Prop} {u v w w2 x y : MS} {PR PR2 N p n n2 opM bnM bxM bx2 ND fr k tp mu CN PN SN UN FN rq q m h mm AN z j : Nat} {ow kd ow2 kd2 ro rn rh cb pc ct pM pE : Nat → Nat} {T : TY} {C : CY}
theorem one_ok {kk : Int} (a : ATQ Fv (PQ AN PR) PR T ND p u fr ro rn rh cb pc ct q n ow kd bxM) (h109 : A u 109 p = 0) (hm : MODE u T C ND CN p (ro (fr - 1)) (rn (fr - 1)) (rh (fr - 1)) (sR T pc (fr - 1)) q bxM mu) (hAN : 22 ≤ AN) (hA2 : AN ≤ 3000) (hA : F u 14 = ((AN : Nat) : Int)) (hp' : PGM Fv (PQ AN PR) PR T C pM pE ND CN PN SN UN FN u) (hfv : FVW Fv u UN FN) (hw : WLD u T ND UN FN PR p) (hE : F u 149 = F u 150 ∧ F u 151 = 0) (hkk : A u 23 q = kk) (hN : 11000000 ≤ N) : OK (fun y _ => RSW Fv AN T C ND CN UN FN p mu u y) (fm_M_one N u (I q) (I kk)) := by
  obtain ⟨i, hF, a98, a4, a5, a6⟩ := id a
  have x4 := MEI_p i
  have hT := PRG_26 hp'.1
  have nd := hp'.1.1.1
  have hf := hF.1
  obtain ⟨nw, wa', -⟩ := hp'.1.2.2.1 q a4
  have k1 := nw.2.2.2.2.2.2.2.2.1
  have k2 := nw.2.2.2.2.2.2.2.2.2.1
  have k3 := nw.2.2.2.2.2.2.2.2.2.2.1
  have k4 := nw.2.2.2.2.2.2.2.2.2.2.2.1
  have k5 := nw.2.2.2.2.2.2.2.2.2.2.2.2.1
  have fin : ∀ y, RES Fv (PQ AN PR) PR T C ND CN p mu u y → RSW Fv AN T C ND CN UN FN p mu u y := fun y hy => RES_rsw hy hw hT i.2.1
  have dk : ∀ c : Int, 0 ≤ c → c < 100 → decide (I kk = I c) = decide (kk = c) := fun c h1 h2 => decE (by omega) (by omega) (by omega) (by omega)
  have y75 : ∀ (s many r c : Nat), ((s = 1 ∧ many = 1 ∧ tB T q + 1 ≤ tH T q) ∨ (s = 2 ∧ many = 0)) → tG T q = 0 → A u 27 q = ((tM T q : Nat) : Int) → A u 25 q = ((c : Nat) : Int) → r < tR T q → CLS C u CN many (tH T q) (tH T q - many) (tM T q) (tL T q) (tK T q) (tC T q) r ((c : Nat) : Int) → OK (fun y _ => RSW Fv AN T C ND CN UN FN p mu u y) (fb_M_one_92 N () u (I q) (I ((60 * p + (fr - 1) : Nat) : Int)) (I s)) := fun s many r c hs hG h27 h25 hr hc => ok_mono (i21 (N := N) a h109 hm hp' hG h27 h25 hs hr hc hE (by omega)) (fun y _ hy => fin y hy)
  unfold fm_M_one fb_M_one_0
  refine ok_br.mpr ⟨fun z => ?_, fun z12 => ok_br.mpr ⟨fun z => ?_, fun z13 => ok_br.mpr ⟨fun z => ?_, fun z27 => ok_br.mpr ⟨fun z => ?_, fun z21 => ok_br.mpr ⟨fun z => ?_, fun z31 => ok_br.mpr ⟨fun z => ?_, fun z29 => ?_⟩⟩⟩⟩⟩⟩
  · have e := of_decide_eq_true ((dk 12 (by omega) (by omega)).symm.trans z)
    unfold fb_M_one_12
    rw [e]
    exact ok_bnd.mpr (ok_mono (i12 (N := N) a h109 hm hAN hp' hfv hw hE (by omega) hN) (fun y _ hy => ok_some.mpr hy))
  · have e := of_decide_eq_true ((dk 13 (by omega) (by omega)).symm.trans z)
    unfold fb_M_one_12
    rw [e]
    exact ok_bnd.mpr (ok_mono (i13 (N := N) a h109 hm hp' hfv hw hE (by omega) (by omega)) (fun y _ hy => ok_some.mpr hy))
  · have e := of_decide_eq_true ((dk 27 (by omega) (by omega)).symm.trans z)
    have hG := (wa'.2.2.2.2.2.2.2.2.2.2.2.1 (by omega)).1
    obtain ⟨-, y2, y3⟩ : tG T q = 0 ∧ F u 152 = 0 ∧ CLG u (sR T pc (fr - 1) + tR T q) 0 mu := by
      rcases hm with y | ⟨y1, c, s, many, hg, hb', mm', r, t1, t2, -⟩
      · exact y
      · omega
    clear hm wa'
    rw [I_F' i.2.2.1]
    refine ok_ck.mpr ⟨inb_at (k := 110) (n := 24) rfl (by omega) (by omega) (by decide), ok_lt.mpr ?_⟩
    rw [I_tn (x := (p : Int)) (by omega) (by omega), Int.toNat_natCast, lit0q, wa_e]
    have f1 : FR [] [] [110] [111] u (wa u 110 p 0) := FR.wa FR.rf (by decide)
    have o1 : OTF p u (wa u 110 p 0) := OTF_110 (by omega) (by omega)
    have e110 : 0 ≤ A (wa u 110 p 0) 110 p := by rw [A_eq (by omega) (by omega), if_pos rfl]; omega
    generalize wa u 110 p 0 = w at *
    have go : ∀ x, FR [] [] [110] [111] u x → OTF p u x → 0 ≤ A x 110 p → (A x 31 q = -1 → x.2.2.2 111 p = -1) → OK (fun y _ => RSW Fv AN T C ND CN UN FN p mu u y) (fb_M_one_57 N () x (I q)) := fun x fx ox h110 h111 => by
      unfold fb_M_one_57
      exact ok_bnd.mpr (ok_mono (goOnWith_ok (N := N) (mu := mu) (C := C) (CN := CN) (ATQ_fr a fx (by decide) (by decide) (by decide)) (by rw [FR.A fx (by decide)]; exact h109) (by rw [FR.F fx (by decide)]; exact y2) (by unfold CLG; rw [FR.F fx (by decide), FR.F fx (by decide)]; exact y3) (PGM_fr hp' fx (by decide) (by decide)) hG (by rw [FR.A fx (by decide)]; omega) h111 h110 (by rw [FR.F fx (by decide), FR.F fx (by decide), FR.F fx (by decide)]; exact hE) (by omega)) (fun y _ hy => ok_some.mpr (RES_via fx ox hy hw hT i.2.1 (by decide) (by decide) (by decide) (by decide) (by decide) (by decide))))
    refine ok_ck.mpr ⟨inb_at (k := 31) (n := 16000) rfl (by omega) (by omega) (by decide), ?_⟩
    have r31 := A_r w 31 q
    rw [I_tn (x := (q : Int)) (by omega) (by omega), Int.toNat_natCast, I_A (k := 31), litm1q, decE r31.1 r31.2 (by omega) (by omega)]
    refine ok_br.mpr ⟨fun _ => ?_, fun zn => go w f1 o1 e110 (fun z => absurd z (of_decide_eq_false zn))⟩
    have w133 : F w 133 = p := by rw [FR.F f1 (by decide)]; exact i.2.2.1
    rw [I_F' w133]
    refine ok_ck.mpr ⟨inb_at (k := 111) (n := 24) rfl (by omega) (by omega) (by decide), ok_lt.mpr ?_⟩
    rw [I_tn (x := (p : Int)) (by omega) (by omega), Int.toNat_natCast, wj_e]
    exact go _ (FR.wj f1 (by decide)) (OTF.tr o1 OTF_111) e110 (fun _ => by rw [J_wj, if_pos rfl, if_pos rfl])
  · have e := of_decide_eq_true ((dk 21 (by omega) (by omega)).symm.trans z)
    obtain ⟨w1, w2, w3, r, w4, w5⟩ := wa'.2.2.2.2.2.2.2.2.2.1 (by omega)
    have w5' := w5
    obtain ⟨c, c1, -⟩ := w5'
    unfold fb_M_one_75
    rw [frame0_x (fr := fr) i.2.2.1 x4 hf.2.2 ⟨hf.1, hf.2.1⟩, bnd_so, z, br_tq]
    exact y75 1 1 r c (Or.inl ⟨rfl, rfl, w2⟩) w1 w3 c1 w4 (by rw [← c1]; exact w5)
  · have e := of_decide_eq_true ((dk 31 (by omega) (by omega)).symm.trans z)
    obtain ⟨w1, w3, r, w4, w5⟩ := wa'.2.2.2.2.2.2.2.2.2.2.1 (by omega)
    have w5' := w5
    obtain ⟨c, c1, -⟩ := w5'
    unfold fb_M_one_75
    rw [frame0_x (fr := fr) i.2.2.1 x4 hf.2.2 ⟨hf.1, hf.2.1⟩, bnd_so, z21, br_fq]
    exact y75 2 0 r c (Or.inr ⟨rfl, rfl⟩) w1 w3 c1 w4 (by rw [← c1, Nat.sub_zero]; exact w5)
  · have e := of_decide_eq_true ((dk 29 (by omega) (by omega)).symm.trans z)
    obtain ⟨w1, w2, w3, w4⟩ := wa'.2.2.2.2.2.2.2.2.2.2.2.2.2.1 (by omega)
    exact ok_bnd.mpr (ok_mono (returns_ok (N := N) a h109 hm hp' w1 w2 w3 w4) (fun y _ hy => ok_some.mpr (fin y hy)))
  · have n12 := of_decide_eq_false ((dk 12 (by omega) (by omega)).symm.trans z12)
    have n13 := of_decide_eq_false ((dk 13 (by omega) (by omega)).symm.trans z13)
    have n27 := of_decide_eq_false ((dk 27 (by omega) (by omega)).symm.trans z27)
    have n21 := of_decide_eq_false ((dk 21 (by omega) (by omega)).symm.trans z21)
    have n31 := of_decide_eq_false ((dk 31 (by omega) (by omega)).symm.trans z31)
    have n29 := of_decide_eq_false ((dk 29 (by omega) (by omega)).symm.trans z29)
    have nq : q + 1 < ND := k5 (by omega)
    rw [show I (q : Int) + 1 = I ((q + 1 : Nat) : Int) from by rw [lit1q, I_add]; rfl]
    refine ok_bnd.mpr (ok_mono (at_node (N := N) (x := q + 1) a h109 hm (by omega) hp'.1) (fun v _ hv => ?_))
    obtain ⟨v1, v2, v3, v4⟩ := hv
    exact ok_mono (one_b (N := N) v1 (PGM_fr hp' v3 (by decide) (by decide)) (by rw [FR.F v3 (by decide)]; exact hA) hA2 (FVW_fr hfv v3 (by decide)) (WLD_fr hw hT v4 v3 (by decide) (by decide) (fun z _ => Or.inl (FR.A v3 (by decide)))) v2 (by rw [FR.A v3 (by decide)]; exact hkk) (by omega) (by omega) nq hN) (fun y _ hy => RSW.pre (FR.mo v3 (by decide) (by decide) (by decide) (by decide)) hy)
end
end
section
def PER (Fv : Int64 → Int64 → Prop) (AN : Nat) (T : TY) (C : CY) (pM pE : Nat → Nat) (ND CN PN SN UN FN : Nat) (w : MS) : Prop := PRG w T C pM pE ND CN PN SN UN FN ∧ FVH Fv ∧ ATM w ∧ F w 14 = ((AN : Nat) : Int) ∧ 22 ≤ AN ∧ FVW Fv w UN FN
def ALT (Fv : Int64 → Int64 → Prop) (P : Int64 → Prop) (PR : Nat) (T : TY) (C : CY) (ND CN p mu : Nat) (w : MS) : Prop := ENDD Fv P PR p w ∨ WAI Fv P PR T ND p w ∨ PAU Fv P PR T ND p w ∨ ∃ m, m < mu ∧ STE Fv P PR T C ND CN p m w
def GGR (u w : MS) : Prop := FR [118, 119, 121, 125, 128, 136, 138, 140, 144, 149, 150, 151, 152, 153, 154, 155, 156, 157, 158, 159, 165, 166, 169] [139] [89, 90, 92, 94, 95, 96, 97, 98, 99, 100, 101, 102, 103, 104, 105, 106, 108, 109, 110, 112, 113, 114, 115, 116, 117, 122, 123, 124, 126, 127, 131, 132, 135, 142, 143, 145, 146, 147, 160, 162, 168, 170] [88, 91, 93, 107, 111, 134, 137, 141, 148, 161, 163, 167] u w
section
variable {Fv : Int64 → Int64 → Prop} {P P2 : Int64 → Prop} {u v w w2 x y : MS} {PR PR2 N p n n2 opM bnM bxM bx2 ND fr k tp mu CN PN SN UN FN rq q m h mm AN z j : Nat} {ow kd ow2 kd2 ro rn rh cb pc ct pM pE : Nat → Nat} {T : TY} {C : CY}
theorem PER_fr {is ls as js : List Nat} (r : PER Fv AN T C pM pE ND CN PN SN UN FN w) (f : FR is ls as js w v) (hi : ∀ k, k ∈ [14, 52, 56] → k ∉ is) (ha : ∀ k, k ∈ 12 :: 13 :: KP → k ∉ as) : PER Fv AN T C pM pE ND CN PN SN UN FN v :=
  ⟨PRG_fr r.1 f hi (fun k hk => ha k (List.mem_cons_of_mem _ (List.mem_cons_of_mem _ hk))), r.2.1, ATM_fr r.2.2.1 f (hi _ (by decide)) (ha _ (by decide)), by rw [FR.F f (hi _ (by decide))]; exact r.2.2.2.1, r.2.2.2.2.1, FVW_fr r.2.2.2.2.2 f (ha _ (by decide))⟩
theorem PER_g (r : PER Fv AN T C pM pE ND CN PN SN UN FN w) (g : GGR w v) : PER Fv AN T C pM pE ND CN PN SN UN FN v := PER_fr r g (by decide) (by decide)
theorem PER_pa (r : PER Fv AN T C pM pE ND CN PN SN UN FN w) : ∀ t, PQ AN PR t → PA w t := fun t h h1 => by
  rcases h with h | h | h | ⟨-, h2, h3⟩ | h
  · omega
  · omega
  · omega
  · rw [r.2.2.2.1]; exact ⟨h2, h3⟩
  · omega
theorem PER_pgm (r : PER Fv AN T C pM pE ND CN PN SN UN FN w) (hpr : PR ≤ 24) : PGM Fv (PQ AN PR) PR T C pM pE ND CN PN SN UN FN w := ⟨r.1, PQ_b r.2.2.2.2.1 hpr, r.2.1, r.2.2.1, PER_pa r⟩
theorem ALT_dw (a : ALT Fv P PR T C ND CN p mu w) : DW Fv P PR w := by
  rcases a with a | ⟨_, _, _, _, _, _, _, _, _, _, _, _, a, -⟩ | ⟨_, _, _, _, _, _, _, _, _, _, _, _, a, -⟩ | ⟨_, -, _, _, _, _, _, _, _, _, _, _, _, _, a, -⟩
  · exact a.1
  · exact a.1.1
  · exact a.1.1
  · exact a.1.1
theorem DW_none (d : DW Fv P PR w) (f : FR [149, 150] [] [] [] w v) (h1 : F v 149 = 0) (h2 : F v 150 = 0) : DW Fv P PR v := by
  obtain ⟨⟨d1, d1'⟩, d2, ⟨n4, ow4, kd4, d3a, d3b, d3c⟩, d4, d5, d6⟩ := d
  have h88 : ∀ o, hp v o = hp w o := fun o => by unfold hp; rw [f.2.2.2 88 (by decide)]
  refine ⟨⟨by rw [FR.F f (by decide)]; exact d1, d1'⟩, fun z hz => PRC_same (d2 z hz) (FR.A f (by decide)) (h88 z) (FR.A f (by decide)) (FR.A f (by decide)) (FR.A f (by decide)) (fun i _ => by rw [f.2.2.2 91 (by decide)]) (fun i _ => by rw [f.2.2.2 93 (by decide)]) (fun i _ => by rw [f.2.2.2 107 (by decide)]) (by rw [FR.F f (by decide), d4]; omega), ⟨n4, ow4, kd4, by rw [FR.A f (by decide)]; exact d3a, d3b, by rw [h88]; exact d3c⟩, by rw [FR.F f (by decide)]; exact d4, ⟨0, 0, h1, h2, Nat.le_refl _, Nat.zero_le _, fun i h1 h2 => by omega⟩, fun z hz => by rw [FR.A f (by decide)]; exact d6 z hz⟩
theorem MEI_none (i : MEI Fv P PR w p n ow kd opM bnM bxM) (f : FR [149, 150] [] [] [] w v) (h1 : F v 149 = 0) (h2 : F v 150 = 0) : MEI Fv P PR v p n ow kd opM bnM bxM := by
  obtain ⟨m1, m2, m3, m4, m5, ⟨x1, x2, x3, x4, x5, x6, x7, x8, x9, x10, x11⟩⟩ := i
  have hpz : hp v p = hp w p := by unfold hp; rw [f.2.2.2 88 (by decide)]
  exact ⟨DW_none m1 f h1 h2, m2, by rw [FR.F f (by decide)]; exact m3, by rw [FR.A f (by decide)]; exact m4, by rw [FR.A f (by decide)]; exact m5, rfl, by rw [hpz]; exact x2, x3, x4, by rw [FR.A f (by decide)]; exact x5, by rw [FR.A f (by decide)]; exact x6, by rw [FR.A f (by decide)]; exact x7, fun i hi => by rw [f.2.2.2 91 (by decide)]; exact x8 i hi, fun i hi => by rw [f.2.2.2 93 (by decide)]; exact x9 i hi, fun i hi => by rw [f.2.2.2 107 (by decide)]; exact x10 i hi, fun e => by rw [FR.F f (by decide), m1.2.2.2.1] at e; omega⟩
theorem ATQ_none (a : ATQ Fv P PR T ND p w fr ro rn rh cb pc ct q n ow kd bxM) (f : FR [149, 150] [] [] [] w v) (h1 : F v 149 = 0) (h2 : F v 150 = 0) : ATQ Fv P PR T ND p v fr ro rn rh cb pc ct q n ow kd bxM := by
  obtain ⟨i, h, a3, a4, a5, a6⟩ := a
  exact ⟨MEI_none i f h1 h2, FRS_fr h f (by decide) (by decide) (by decide) (by decide) (by decide) (by decide) (by decide) (by decide) (by decide) (by decide), by rw [FR.A f (by decide)]; exact a3, a4, a5, by rw [FR.A f (by decide)]; exact a6⟩
theorem TRS_none {a1 a2 a3 s many hg hb m r : Nat} (ht : TRS w T C ND CN p a1 a2 a3 k tp s many hg hb m r bxM) (f : FR [149, 150] [] [] [] w v) (h1 : F v 149 = 0) (h2 : F v 150 = 0) : TRS v T C ND CN p a1 a2 a3 k tp s many hg hb m r bxM := by
  obtain ⟨⟨s1, s2⟩, u1, u2, u3, u4⟩ := ht
  have cls : ∀ x, CLS C w CN many hg hb m a3 k tp r x → CLS C v CN many hg hb m a3 k tp r x := fun x ⟨c', d1, d2, d3, d4⟩ => ⟨c', d1, d2, by rw [FR.A f (by decide)]; exact d3, d4⟩
  refine ⟨⟨by rw [FR.F f (by decide)]; exact s1, s2⟩, by rw [FR.F f (by decide)]; exact u1, ?_, fun z => ?_, fun z => ?_, by rw [h1, h2], by rw [FR.F f (by decide)]; exact u4.2.2⟩
  · rw [FR.F f (by decide)]
    rcases u2 with u2 | u2
    · exact Or.inl u2
    · exact Or.inr (cls _ u2)
  · obtain ⟨v0, v1, v2, q, v3, v4, v5, v6⟩ := u3 z
    obtain ⟨v6, v7, v8, v9, v10, v11, v12, v13⟩ := v6
    rw [FR.F f (by decide), FR.F f (by decide)]
    exact ⟨cls _ v0, v1, v2, q, by rw [FR.F f (by decide)]; exact v3, v4, by rw [FR.A f (by decide)]; exact v5, v6, v7, v8, v9, v10, v11, v12, fun y => by rw [FR.A f (by decide)] at y; rw [f.2.2.2 111 (by decide)]; exact v13 y⟩
  · rw [FR.A f (by decide)]; exact u4.1 z
theorem ATQ_ev (a : ATQ Fv P PR T ND p w fr ro rn rh cb pc ct q n ow kd bxM) (f : FR [125, 136, 138, 140, 144, 149, 150] [139] [89, 90, 108, 109, 113, 116, 117, 122, 123, 124, 131, 132, 135, 142, 143, 145, 146, 147] [88, 91, 93, 107, 134, 137, 141, 148] w v) (d : DW Fv P PR v) (h : A v 109 p ≠ 3) : ∃ n2 ow2 kd2 bx2, ATQ Fv P PR T ND p v fr ro rn rh cb pc ct q n2 ow2 kd2 bx2 := by
  obtain ⟨i, hF, a3, a4, a5, a6⟩ := a
  obtain ⟨n2, ow2, kd2, bx2, ix⟩ := MEX_of (opM := ro (fr - 1) + tH T q) (bnM := rn (fr - 1) + rh (fr - 1) + tM T q) d i.2.1 (by rw [FR.F f (by decide)]; exact i.2.2.1) (by rw [FR.A f (by decide)]; exact i.2.2.2.2.2.2.2.2.2.1.1) (by rw [FR.A f (by decide)]; exact i.2.2.2.2.2.2.2.2.2.2.1.1)
  exact ⟨n2, ow2, kd2, bx2, MEX_i ix h, FRS_fr hF f (by decide) (by decide) (by decide) (by decide) (by decide) (by decide) (by decide) (by decide) (by decide) (by decide), by rw [FR.A f (by decide)]; exact a3, a4, a5, by rw [FR.A f (by decide)]; exact a6⟩
theorem ALT_ev (a : ALT Fv P PR T C ND CN p mu w) (hE : F w 149 ≠ F w 150) (f : FR [125, 136, 138, 140, 144, 149, 150] [139] [89, 90, 108, 109, 113, 116, 117, 122, 123, 124, 131, 132, 135, 142, 143, 145, 146, 147] [88, 91, 93, 107, 134, 137, 141, 148] w v) (d : DW Fv P PR v) (h109 : A v 109 p = A w 109 p ∨ A v 109 p = 3) : ALT Fv P PR T C ND CN p mu v := by
  by_cases e3 : A v 109 p = 3
  · exact Or.inl ⟨d, e3⟩
  have e9 : A v 109 p = A w 109 p := by
    rcases h109 with h | h
    · exact h
    · exact absurd h e3
  rcases a with a | ⟨fr, ro, rn, rh, cb, pc, ct, q, n, ow, kd, bx, a, b1, b2, b3, b4, b5⟩ | ⟨fr, ro, rn, rh, cb, pc, ct, q, n, ow, kd, bx, a, b1, b2, b3⟩ | ⟨m, hm, fr, ro, rn, rh, cb, pc, ct, q, n, ow, kd, bx, a, b1, b2⟩
  · exact absurd (e9.trans a.2) e3
  · obtain ⟨n2, ow2, kd2, bx2, a2⟩ := ATQ_ev a f d e3
    exact Or.inr (Or.inl ⟨fr, ro, rn, rh, cb, pc, ct, q, n2, ow2, kd2, bx2, a2, by rw [e9]; exact b1, b2, by rw [FR.A f (by decide)]; exact b3, fun z => by rw [FR.A f (by decide)] at z; rw [f.2.2.2 111 (by decide)]; exact b4 z, by rw [FR.A f (by decide)]; exact b5⟩)
  · obtain ⟨n2, ow2, kd2, bx2, a2⟩ := ATQ_ev a f d e3
    exact Or.inr (Or.inr (Or.inl ⟨fr, ro, rn, rh, cb, pc, ct, q, n2, ow2, kd2, bx2, a2, by rw [e9]; exact b1, b2, by rw [FR.F f (by decide)]; exact b3⟩))
  · obtain ⟨n2, ow2, kd2, bx2, a2⟩ := ATQ_ev a f d e3
    refine Or.inr (Or.inr (Or.inr ⟨m, hm, fr, ro, rn, rh, cb, pc, ct, q, n2, ow2, kd2, bx2, a2, by rw [e9]; exact b1, ?_⟩))
    rcases b2 with ⟨y1, y2, y3⟩ | ⟨y1, c, s, many, hg, hb', mm', r, t1, -⟩
    · refine Or.inl ⟨y1, by rw [FR.F f (by decide)]; exact y2, ?_⟩
      unfold CLG; rw [FR.F f (by decide), FR.F f (by decide)]; exact y3
    · exact absurd t1.2.2.2.2.2.1 hE
theorem ALT_none (a : ALT Fv P PR T C ND CN p mu w) (f : FR [149, 150] [] [] [] w v) (h1 : F v 149 = 0) (h2 : F v 150 = 0) : ALT Fv P PR T C ND CN p mu v := by
  rcases a with a | ⟨fr, ro, rn, rh, cb, pc, ct, q, n, ow, kd, bx, a, b1, b2, b3, b4, b5⟩ | ⟨fr, ro, rn, rh, cb, pc, ct, q, n, ow, kd, bx, a, b1, b2, b3⟩ | ⟨m, hm, fr, ro, rn, rh, cb, pc, ct, q, n, ow, kd, bx, a, b1, b2⟩
  · exact Or.inl ⟨DW_none a.1 f h1 h2, by rw [FR.A f (by decide)]; exact a.2⟩
  · exact Or.inr (Or.inl ⟨fr, ro, rn, rh, cb, pc, ct, q, n, ow, kd, bx, ATQ_none a f h1 h2, by rw [FR.A f (by decide)]; exact b1, b2, by rw [FR.A f (by decide)]; exact b3, fun z => by rw [FR.A f (by decide)] at z; rw [f.2.2.2 111 (by decide)]; exact b4 z, by rw [FR.A f (by decide)]; exact b5⟩)
  · exact Or.inr (Or.inr (Or.inl ⟨fr, ro, rn, rh, cb, pc, ct, q, n, ow, kd, bx, ATQ_none a f h1 h2, by rw [FR.A f (by decide)]; exact b1, b2, by rw [FR.F f (by decide)]; exact b3⟩))
  · refine Or.inr (Or.inr (Or.inr ⟨m, hm, fr, ro, rn, rh, cb, pc, ct, q, n, ow, kd, bx, ATQ_none a f h1 h2, by rw [FR.A f (by decide)]; exact b1, ?_⟩))
    rcases b2 with ⟨y1, y2, y3⟩ | ⟨y1, c, s, many, hg, hb', mm', r, t1, t2, t3, t4, t5⟩
    · refine Or.inl ⟨y1, by rw [FR.F f (by decide)]; exact y2, ?_⟩
      unfold CLG; rw [FR.F f (by decide), FR.F f (by decide)]; exact y3
    · refine Or.inr ⟨by rw [FR.F f (by decide)]; exact y1, c, s, many, hg, hb', mm', r, TRS_none t1 f h1 h2, t2, by rw [FR.F f (by decide)]; exact t3, by rw [FR.F f (by decide)]; exact t4, ?_⟩
      unfold CLG; rw [FR.F f (by decide), FR.F f (by decide), FR.F f (by decide)]; exact t5
theorem ae_step (r : PER Fv AN T C pM pE ND CN PN SN UN FN w) (a : ALT Fv (PQ AN PR) PR T C ND CN p mu w) (hw : WLD w T ND UN FN PR p) (hN : 11000000 ≤ N) : OK (fun v _ => ALT Fv (PQ AN PR) PR T C ND CN p mu v ∧ WLD v T ND UN FN PR p ∧ F v 149 = 0 ∧ F v 150 = 0 ∧ F v 151 = F w 151 ∧ (A v 109 p = A w 109 p ∨ A v 109 p = 3) ∧ GGR w v) (fm_M_allEnds N w) := by
  have d := ALT_dw a
  have hT := PRG_26 r.1
  by_cases hE : F w 149 = F w 150
  · have r9 := F_r w 149
    unfold fm_M_allEnds fb_M_allEnds_0
    rw [I_F (k := 150), I_F (k := 149), hE, decI (by omega) (by omega) (by omega) (by omega), decide_eq_true (Int.le_refl _), br_tq]
    refine ok_lt.mpr (ok_lt.mpr (ok_some.mpr ?_))
    rw [lit0q, wi_e, wi_e]
    have f1 : FR [149, 150] [] [] [] w (wi (wi w 149 0) 150 0) := FR.wi (FR.wi FR.rf (by decide)) (by decide)
    have h1 : F (wi (wi w 149 0) 150 0) 149 = 0 := by rw [F_ne (by decide), F_wi (by omega) (by omega), if_pos rfl]
    have h2 : F (wi (wi w 149 0) 150 0) 150 = 0 := by rw [F_wi (by omega) (by omega), if_pos rfl]
    generalize wi (wi w 149 0) 150 0 = v at *
    exact ⟨ALT_none a f1 h1 h2, WLD_fr hw hT (OTF_fr f1 (by decide)) f1 (by decide) (by decide) (fun z _ => Or.inl (FR.A f1 (by decide))), h1, h2, FR.F f1 (by decide), Or.inl (FR.A f1 (by decide)), FR.mo f1 (by decide) (by decide) (by decide) (by decide)⟩
  · refine ok_mono (allEnds_ok (N := N) (PQ_b r.2.2.2.2.1 d.1.2) PQ_s hN ⟨d, hw.1, hw.2.1⟩ r.2.2.1 (PER_pa r)) (fun v _ hv => ?_)
    obtain ⟨⟨v1, v2, v3⟩, v4, v5, v6, v7, v8⟩ := hv
    refine ⟨ALT_ev a hE v4 v1 (v5 p), WLD_otf hw hT (OTF_fr v4 (by decide)) (fun k hk i => FR.A v4 (by revert hk; unfold KP; simp; omega)) (fun z _ => v5 z) v2 v3 (by rw [FR.F v4 (by decide)]; exact hw.2.2.1) (fun i => by rw [FR.A v4 (by decide)]; exact hw.2.2.2.1 i) (fun i => ?_), v7, v8, FR.F v4 (by decide), v5 p, FR.mo v4 (by decide) (by decide) (by decide) (by decide)⟩
    rcases v6 i with e | e
    · rw [e]; exact hw.2.2.2.2.2.1 i
    · exact e
end
end
section
def REST (Fv : Int64 → Int64 → Prop) (AN : Nat) (T : TY) (ND UN FN PR : Nat) (w : MS) : Prop := DW Fv (PQ AN PR) PR w ∧ WLD w T ND UN FN PR 24 ∧ F w 149 = 0 ∧ F w 150 = 0
def GOI (Fv : Int64 → Int64 → Prop) (AN : Nat) (T : TY) (C : CY) (ND CN UN FN p mu : Nat) (w : MS) : Prop := ∃ PR, p < PR ∧ ALT Fv (PQ AN PR) PR T C ND CN p mu w ∧ WLD w T ND UN FN PR p ∧ (A w 109 p = 0 → F w 151 = 0 → F w 149 = F w 150)
section
variable {Fv : Int64 → Int64 → Prop} {P P2 : Int64 → Prop} {u v w w2 x y : MS} {PR PR2 N p n n2 opM bnM bxM bx2 ND fr k tp mu CN PN SN UN FN rq q m h mm AN z j : Nat} {ow kd ow2 kd2 ro rn rh cb pc ct pM pE : Nat → Nat} {T : TY} {C : CY}
theorem ATQ_frz (a : ATQ Fv P PR T ND p w fr ro rn rh cb pc ct q n ow kd bxM) (hG : tG T q = 0) (hs : A w 109 p = 0 ∨ (A w 109 p = 1 ∧ A w 23 q = 27 ∧ (A w 31 q = -1 → w.2.2.2 111 p = -1) ∧ 0 ≤ A w 110 p)) : FRZ w T ND p := by
  obtain ⟨i, h, a3, a4, a5, a6⟩ := a
  exact ⟨fr, ro, rn, rh, cb, pc, ct, q, h, a3, a4, a5, a6, i.2.2.2.2.2.2.2.2.2.1.1, i.2.2.2.2.2.2.2.2.2.2.1.1, hG, hs⟩
theorem ALT_psx (a : ALT Fv P PR T C ND CN p mu w) (h : A w 109 p = 0 → F w 151 ≠ 0) : PSX w T ND UN FN p := by
  rcases a with a | ⟨fr, ro, rn, rh, cb, pc, ct, q, n, ow, kd, bx, a, b1, b2, b3, b4, b5⟩ | ⟨fr, ro, rn, rh, cb, pc, ct, q, n, ow, kd, bx, a, b1, b2, b3⟩ | ⟨m, hm, fr, ro, rn, rh, cb, pc, ct, q, n, ow, kd, bx, a, b1, b2⟩
  · exact Or.inl a.2
  · exact Or.inr (Or.inl (ATQ_frz a b2 (Or.inr ⟨b1, b3, b4, b5⟩)))
  · exact Or.inr (Or.inl (ATQ_frz a b2 (Or.inl b1)))
  · rcases b2 with ⟨y1, y2, y3⟩ | ⟨y1, c, s, many, hg, hb', mm', r, t1, -⟩
    · exact Or.inr (Or.inl (ATQ_frz a y1 (Or.inl b1)))
    · exact absurd t1.2.2.2.2.2.2 (h b1)
theorem WLD_rest (hw : WLD w T ND UN FN PR p) (hp : PSX w T ND UN FN p) : WLD w T ND UN FN PR 24 := by
  obtain ⟨h1, h2, h3, h4, h5, h6, h7⟩ := hw
  refine ⟨h1, h2, h3, h4, h5, h6, fun z hz _ => ?_⟩
  by_cases e : z = p
  · rw [e]; exact hp
  · exact h7 z hz e
theorem WLD_p (hw : WLD w T ND UN FN PR 24) (hpr : PR ≤ 24) : WLD w T ND UN FN PR p := by
  obtain ⟨h1, h2, h3, h4, h5, h6, h7⟩ := hw
  exact ⟨h1, h2, h3, h4, h5, h6, fun z hz _ => h7 z hz (by omega)⟩
theorem FRZ_atq (f : FRZ w T ND p) (d : DW Fv P PR w) (hp : p < PR) (h133 : F w 133 = p) (h3 : A w 109 p ≠ 3) : ∃ fr ro rn rh cb pc ct q n ow kd bx, ATQ Fv P PR T ND p w fr ro rn rh cb pc ct q n ow kd bx ∧ tG T q = 0 ∧ (A w 109 p = 0 ∨ (A w 109 p = 1 ∧ A w 23 q = 27 ∧ (A w 31 q = -1 → w.2.2.2 111 p = -1) ∧ 0 ≤ A w 110 p)) := by
  obtain ⟨fr, ro, rn, rh, cb, pc, ct, q, h1, h2, h3', h4, h5, h6, h7, h8, h9⟩ := f
  obtain ⟨n, ow, kd, bx, ix⟩ := MEX_of d hp h133 h6 h7
  exact ⟨fr, ro, rn, rh, cb, pc, ct, q, n, ow, kd, bx, ⟨MEX_i ix h3, h1, h2, h3', h4, h5⟩, h8, h9⟩
theorem GGR.tr {u v w : MS} (a : GGR u v) (b : GGR v w) : GGR u w := FR.tr a b
theorem go_243 {G : MS → Int32 → Option (MS × Int32)} (r : PER Fv AN T C pM pE ND CN PN SN UN FN w) (hp : p < PR) (a : ALT Fv (PQ AN PR) PR T C ND CN p mu w) (hw : WLD w T ND UN FN PR p) (hs : F w 151 ≠ 0 ∨ A w 109 p ≠ 0) (hN : 11000000 ≤ N) : OK (fun v _ => (∃ PR, REST Fv AN T ND UN FN PR v) ∧ GGR w v) (fb_M_go_243 N G w) := by
  unfold fb_M_go_243
  refine ok_bnd.mpr (ok_mono (ae_step (N := N) r a hw hN) (fun v _ hv => ok_some.mpr ?_))
  obtain ⟨v1, v2, v3, v4, v5, v6, v7⟩ := hv
  refine ⟨⟨PR, ALT_dw v1, WLD_rest v2 (ALT_psx v1 (fun z => ?_)), v3, v4⟩, v7⟩
  rcases hs with hs | hs
  · rw [v5]; exact hs
  · omega
set_option maxRecDepth 100000 in
theorem go_loop (hN : 11000000 ≤ N) : ∀ (M mu : Nat) (w : MS), GOI Fv AN T C ND CN UN FN p mu w → PER Fv AN T C pM pE ND CN PN SN UN FN w → mu < M → OK (fun v _ => (∃ PR, REST Fv AN T ND UN FN PR v) ∧ GGR w v) (gg_M_go N M w (I p)) := by
  intro M
  induction M with
  | zero => intro mu w _ _ h; omega
  | succ M ih =>
    intro mu w g r hM
    obtain ⟨PR, hp, a, hw, hE⟩ := g
    have d := ALT_dw a
    have pr := d.1.2
    show OK _ (fb_M_go_199 N (gg_M_go N M) w (I p))
    unfold fb_M_go_199
    have r151 := F_r w 151
    have r109 := A_r w 109 p
    rw [I_F (k := 151), lit0q, decE r151.1 r151.2 (by omega) (by omega)]
    refine ok_br.mpr ⟨fun z1 => ok_ck.mpr ⟨inb_at (k := 109) (n := 24) rfl (by omega) (by omega) (by decide), ?_⟩, fun z1 => go_243 r hp a hw (Or.inl (of_decide_eq_false z1)) hN⟩
    have e151 := of_decide_eq_true z1
    rw [I_tn (x := (p : Int)) (by omega) (by omega), Int.toNat_natCast, I_A (k := 109), decE r109.1 r109.2 (by omega) (by omega)]
    refine ok_br.mpr ⟨fun z9 => ?_, fun z9 => go_243 r hp a hw (Or.inr (of_decide_eq_false z9)) hN⟩
    have e109 := of_decide_eq_true z9
    obtain ⟨m, hm, fr, ro, rn, rh, cb, pc, ct, q, n, ow, kd, bx, aq, b1, b2⟩ : ∃ m, m < mu ∧ STE Fv (PQ AN PR) PR T C ND CN p m w := by
      rcases a with a | ⟨_, _, _, _, _, _, _, _, _, _, _, _, -, b1, -⟩ | ⟨_, _, _, _, _, _, _, _, _, _, _, _, -, -, -, b3⟩ | a
      · have := a.2; omega
      · omega
      · omega
      · exact a
    have hf := aq.2.1.1
    have q98 := aq.2.2.1
    have q4 := aq.2.2.2.1
    have nd := r.1.1.1
    have an : AN ≤ 3000 := by have := r.2.2.1.2.1; have := r.2.2.2.1; omega
    rw [frame0_x (fr := fr) aq.1.2.2.1 (by omega) hf.2.2 ⟨hf.1, hf.2.1⟩, bnd_so]
    refine ok_ck.mpr ⟨inb_at (k := 98) (n := 1440) rfl (by omega) (by omega) (by decide), ?_⟩
    rw [I_tn (x := ((60 * p + (fr - 1) : Nat) : Int)) (by omega) (by omega), Int.toNat_natCast, I_A' q98]
    refine ok_ck.mpr ⟨inb_at (k := 23) (n := 16000) rfl (by omega) (by omega) (by decide), ?_⟩
    rw [I_tn (x := (q : Int)) (by omega) (by omega), Int.toNat_natCast, I_A (k := 23)]
    refine ok_bnd.mpr (ok_mono (one_ok (N := N) (mu := m) aq b1 b2 r.2.2.2.2.1 an r.2.2.2.1 (PER_pgm r pr) r.2.2.2.2.2 hw ⟨hE e109 e151, e151⟩ rfl hN) (fun v _ hv => ?_))
    obtain ⟨PR2, h1, h2, h3, h4⟩ := hv
    have g1 : GGR w v := FR.mo h4 (by decide) (by decide) (by decide) (by decide)
    refine ok_bnd.mpr (ok_mono (ae_step (N := N) (mu := m) (PER_g r g1) h2 h3 hN) (fun y _ hy => ?_))
    obtain ⟨y1, y2, y3, y4, y5, y6, y7⟩ := hy
    exact ok_mono (ih m y ⟨PR2, h1, y1, y2, fun _ _ => by rw [y3, y4]⟩ (PER_g (PER_g r g1) y7) (by omega)) (fun s _ hs => ⟨hs.1, GGR.tr g1 (GGR.tr y7 hs.2)⟩)
end
end
section
section
variable {Fv : Int64 → Int64 → Prop} {P P2 : Int64 → Prop} {u v w w2 x y : MS} {PR PR2 N p n n2 opM bnM bxM bx2 ND fr k tp mu CN PN SN UN FN rq q m h mm AN z j : Nat} {ow kd ow2 kd2 ro rn rh cb pc ct pM pE : Nat → Nat} {T : TY} {C : CY}
def CGR (u w : MS) : Prop := FR [3, 118, 119, 121, 125, 128, 133, 136, 138, 140, 144, 149, 150, 151, 152, 153, 154, 155, 156, 157, 158, 159, 164, 165, 166, 169] [139] [89, 90, 92, 94, 95, 96, 97, 98, 99, 100, 101, 102, 103, 104, 105, 106, 108, 109, 110, 112, 113, 114, 115, 116, 117, 122, 123, 124, 126, 127, 131, 132, 135, 142, 143, 145, 146, 147, 160, 162, 168, 170] [88, 91, 93, 107, 111, 134, 137, 141, 148, 161, 163, 167] u w
theorem isProcess_ok {a : Int32} (h : F w 87 ≠ 0 → F w 118 = ((PR : Nat) : Int) ∧ PR ≤ 24) : OK (fun v r => v = w ∧ (r = 0 ∨ (r = 1 ∧ F w 87 ≠ 0 ∧ ∃ p : Nat, p < PR ∧ a = I p))) (fm_M_isProcess N w a) := by
  unfold fm_M_isProcess fb_M_isProcess_0 fb_M_isProcess_23 fb_M_isProcess_24
  rw [isb0, isb1, ck_t, ck_t]
  have no : OK (fun v r => v = w ∧ (r = 0 ∨ (r = 1 ∧ F w 87 ≠ 0 ∧ ∃ p : Nat, p < PR ∧ a = I p))) (some (w, (0 : Int32))) := ok_some.mpr ⟨rfl, Or.inl rfl⟩
  refine ok_br.mpr ⟨fun _ => no, fun z87 => ok_br.mpr ⟨fun _ => no, fun z0 => ok_br.mpr ⟨fun _ => no, fun z1 => ok_some.mpr ⟨rfl, Or.inr ⟨rfl, ?_⟩⟩⟩⟩⟩
  have n87 : F w 87 ≠ 0 := fun e => of_decide_eq_false z87 (by rw [I_F' e]; rfl)
  obtain ⟨h1, h2⟩ := h n87
  have ra := ti_rng a
  have e : a = I a.toInt := I_of a
  rw [e, lit0q, decL ra.1 ra.2 (by omega) (by omega)] at z0
  rw [e, I_F' h1, decI (by omega) (by omega) ra.1 ra.2] at z1
  have b0 := of_decide_eq_false z0
  have b1 := of_decide_eq_false z1
  refine ⟨n87, a.toInt.toNat, by omega, ?_⟩
  rw [show ((a.toInt.toNat : Nat) : Int) = a.toInt from by omega]; exact e
theorem mayGo_ok (hp : p < 24) : OK (fun v _ => v = w) (fm_M_mayGo N w (I p)) := by
  unfold fm_M_mayGo fb_M_mayGo_0 fb_M_mayGo_45 fb_M_mayGo_41 fb_M_mayGo_46
  rw [isb0, isb1]
  have y : ∀ r : Int32, OK (fun v (_ : Int32) => v = w) (ck true (some (w, r))) := fun r => ok_ck.mpr ⟨rfl, ok_some.mpr rfl⟩
  exact ok_ck.mpr ⟨inb_at (k := 110) (n := 24) rfl (by omega) (by omega) (by decide), ok_ck.mpr ⟨inb_at (k := 108) (n := 24) rfl (by omega) (by omega) (by decide), ok_br.mpr ⟨fun _ => y 1, fun _ => ok_ck.mpr ⟨inb_at (k := 111) (n := 24) rfl (by omega) (by omega) (by decide), ok_br.mpr ⟨fun _ => y 0, fun _ => ok_ck.mpr ⟨inb_at (k := 111) (n := 24) rfl (by omega) (by omega) (by decide), ok_br.mpr ⟨fun _ => y 0, fun _ => y 1⟩⟩⟩⟩⟩⟩⟩
theorem RES_goi {b : Int} (hr : RES Fv (PQ AN PR) PR T C ND CN p mu u w) (hp : p < PR) (hw : WLD u T ND UN FN PR p) (hT : ∀ q, q < ND → tK T q ≤ 26) (h9 : F u 149 = 0) (h0 : F u 150 = 0) : GOI Fv AN T C ND CN UN FN p mu w ∧ GGR u w := by
  obtain ⟨r1, r2, r3, r4⟩ := hr
  refine ⟨⟨PR, hp, ?_, WLD_fr hw hT r3 r2.st (by decide) (by decide) (fun z hz => Or.inl (r4 z hz)), fun e9 _ => ?_⟩, FR.mo r2.st (by decide) (by decide) (by decide) (by decide)⟩
  · rcases r1 with r1 | r1 | r1
    · exact Or.inl r1
    · exact Or.inr (Or.inl r1)
    · exact Or.inr (Or.inr (Or.inr r1))
  · rcases r2 with r2 | ⟨-, r2⟩
    · rw [FR.F r2 (by decide), FR.F r2 (by decide), h9, h0]
    · omega
theorem CLG_new {b : Nat} {s e : Nat} (h165 : F w 165 = 0) (h164 : F w 164 = ((b : Nat) : Int)) (hb : b ≤ 500) (hs : s ≤ 976000) (he : e ≤ 16002) : CLG w s (e : Int) 600000000000000 := by
  refine ⟨by omega, by omega, by omega, ?_⟩
  rw [h164, h165]
  omega
set_option maxRecDepth 100000 in
theorem go_start {b : Nat} {i6 : MS} (hp : p < PR) (hb : b ≤ 500) (rest : REST Fv AN T ND UN FN PR w) (r : PER Fv AN T C pM pE ND CN PN SN UN FN w) (h3 : A w 109 p ≠ 3) (hN : 700000000000000 < N) : OK (fun v _ => (∃ PR, REST Fv AN T ND UN FN PR v) ∧ CGR w v) (fb_M_go_61 N (gg_M_go N N) w (I p) (I b) 0) := by
  obtain ⟨d, hw, h149, h150⟩ := rest
  have pr := d.1.2
  have hT := PRG_26 r.1
  have nd := r.1.1.1
  have un := r.1.1.2.2.2.1
  have fn := r.1.1.2.2.2.2.1
  have cn := r.1.1.2.1
  unfold fb_M_go_61
  refine ok_lt.mpr ?_
  rw [show upI w 3 0 = wi w 3 0 from rfl, br_t_of (decide_eq_true (show (wi w 3 0).1 3 = 0 from rfl))]
  refine ok_lt.mpr (ok_lt.mpr (ok_lt.mpr (ok_lt.mpr (ok_lt.mpr ?_))))
  rw [wi_e (k := 133), wi_e (k := 164), show ∀ s : MS, upI s 165 0 = wi s 165 0 from fun _ => rfl, show ∀ s : MS, upI s 151 0 = wi s 151 0 from fun _ => rfl, show ∀ s : MS, upI s 152 0 = wi s 152 0 from fun _ => rfl]
  have f1 : FR [3, 133, 151, 152, 164, 165] [] [] [] w (wi (wi (wi (wi (wi (wi w 3 0) 133 (p : Int)) 164 (b : Int)) 165 0) 151 0) 152 0) := FR.wi (FR.wi (FR.wi (FR.wi (FR.wi (FR.wi FR.rf (by decide)) (by decide)) (by decide)) (by decide)) (by decide)) (by decide)
  have e133 : F (wi (wi (wi (wi (wi (wi w 3 0) 133 (p : Int)) 164 (b : Int)) 165 0) 151 0) 152 0) 133 = p := by rw [F_ne (by decide), F_ne (by decide), F_ne (by decide), F_ne (by decide), F_wi (by omega) (by omega), if_pos rfl]
  have e164 : F (wi (wi (wi (wi (wi (wi w 3 0) 133 (p : Int)) 164 (b : Int)) 165 0) 151 0) 152 0) 164 = ((b : Nat) : Int) := by rw [F_ne (by decide), F_ne (by decide), F_ne (by decide), F_wi (by omega) (by omega), if_pos rfl]
  have e165 : F (wi (wi (wi (wi (wi (wi w 3 0) 133 (p : Int)) 164 (b : Int)) 165 0) 151 0) 152 0) 165 = 0 := by rw [F_ne (by decide), F_ne (by decide), F_wi (by omega) (by omega), if_pos rfl]
  have e151 : F (wi (wi (wi (wi (wi (wi w 3 0) 133 (p : Int)) 164 (b : Int)) 165 0) 151 0) 152 0) 151 = 0 := by rw [F_ne (by decide), F_wi (by omega) (by omega), if_pos rfl]
  have e152 : F (wi (wi (wi (wi (wi (wi w 3 0) 133 (p : Int)) 164 (b : Int)) 165 0) 151 0) 152 0) 152 = 0 := by rw [F_wi (by omega) (by omega), if_pos rfl]
  generalize wi (wi (wi (wi (wi (wi w 3 0) 133 (p : Int)) 164 (b : Int)) 165 0) 151 0) 152 0 = w1 at *
  refine ok_ck.mpr ⟨inb_at (k := 115) (n := 24) rfl (by omega) (by omega) (by decide), ok_lt.mpr ?_⟩
  rw [I_tn (x := (p : Int)) (by omega) (by omega), Int.toNat_natCast, show (0 : Int32) = I 0 from rfl, wa_e (k := 115)]
  have f12 : FR [] [] [115] [] w1 (wa w1 115 p 0) := FR.wa FR.rf (by decide)
  generalize wa w1 115 p 0 = w2 at *
  have f2 : FR [3, 133, 151, 152, 164, 165] [] [115] [] w w2 := FR.tr (FR.mo f1 (by decide) (by decide) (by decide) (by decide)) (FR.mo f12 (by decide) (by decide) (by decide) (by decide))
  have c133 : F w2 133 = p := by rw [FR.F f12 (by decide)]; exact e133
  have c164 : F w2 164 = ((b : Nat) : Int) := by rw [FR.F f12 (by decide)]; exact e164
  have c165 : F w2 165 = 0 := by rw [FR.F f12 (by decide)]; exact e165
  have c151 : F w2 151 = 0 := by rw [FR.F f12 (by decide)]; exact e151
  have c152 : F w2 152 = 0 := by rw [FR.F f12 (by decide)]; exact e152
  clear e133 e164 e165 e151 e152 f1 f12
  have d2 : DW Fv (PQ AN PR) PR w2 := DW_fr d f2 (by decide) (by decide) (by decide) (by decide) (by decide) (by decide) (by decide) (by decide) (by decide) (by decide) (by decide) (by decide) (by decide) (by decide) (by decide) (by decide) (by decide)
  have r2 : PER Fv AN T C pM pE ND CN PN SN UN FN w2 := PER_fr r f2 (by decide) (by decide)
  have wl24 : WLD w2 T ND UN FN PR 24 := WLD_fr hw hT (OTF_fr f2 (by decide)) f2 (by decide) (by decide) (fun z _ => Or.inl (FR.A f2 (by decide)))
  have wl2 : WLD w2 T ND UN FN PR p := WLD_p wl24 pr
  have ps := wl24.2.2.2.2.2.2 p hp (by omega)
  have g149 : F w2 149 = 0 := by rw [FR.F f2 (by decide)]; exact h149
  have g150 : F w2 150 = 0 := by rw [FR.F f2 (by decide)]; exact h150
  have n3 : A w2 109 p ≠ 3 := by rw [FR.A f2 (by decide)]; exact h3
  have r109 := A_r w2 109 p
  have pgm2 := PER_pgm r2 pr
  have rest' : ∀ x, GOI Fv AN T C ND CN UN FN p 600000000000000 x → FR [3, 118, 119, 121, 125, 128, 133, 136, 138, 140, 144, 149, 150, 151, 152, 153, 154, 155, 156, 157, 158, 159, 164, 165, 166, 169] [139] [89, 90, 92, 94, 95, 96, 97, 98, 99, 100, 101, 102, 103, 104, 105, 106, 108, 109, 110, 112, 113, 114, 115, 116, 117, 122, 123, 124, 126, 127, 131, 132, 135, 142, 143, 145, 146, 147, 160, 162, 168, 170] [88, 91, 93, 107, 111, 134, 137, 141, 148, 161, 163, 167] w x → OK (fun v _ => (∃ PR, REST Fv AN T ND UN FN PR v) ∧ CGR w v) (gg_M_go N N x (I p)) := fun x gx fx => ok_mono (go_loop (N := N) (by omega) N 600000000000000 x gx (PER_fr r fx (by decide) (by decide)) (by omega)) (fun v _ hv => ⟨hv.1, FR.tr fx (FR.mo hv.2 (by decide) (by decide) (by decide) (by decide))⟩)
  have nine : ∀ a : Int, a = 0 ∨ a = 1 → FR [] [] [109] [] w2 (wa w2 109 p a) ∧ (∀ y, A (wa w2 109 p a) 109 y = if y = p then a else A w2 109 y) := fun a ha => ⟨FR.wa FR.rf (by decide), fun y => A_eq (by omega) (by omega)⟩
  obtain ⟨f9, a9⟩ := nine 0 (Or.inl rfl)
  have d9 : DW Fv (PQ AN PR) PR (wa w2 109 p 0) := DW_109 d2 f9 (fun z hz => by rw [a9, if_neg hz]) n3 (Or.inl (by rw [a9, if_pos rfl]))
  have p9 : A (wa w2 109 p 0) 109 p = 0 := by rw [a9, if_pos rfl]
  have o9 : OTF p w2 (wa w2 109 p 0) := OTF_fr f9 (by decide)
  have wl9 : WLD (wa w2 109 p 0) T ND UN FN PR p := WLD_fr wl2 hT o9 f9 (by decide) (by decide) (fun z hz => Or.inl (by rw [a9, if_neg hz]))
  have in9 : inb (I (p : Int)) (ln 109) = true := inb_at (k := 109) (n := 24) rfl (by omega) (by omega) (by decide)
  rw [in9, ck_t, ck_t, I_A (k := 109), show (5 : Int32) = I 5 from rfl, decE r109.1 r109.2 (by omega) (by omega), show (1 : Int32) = I 1 from rfl, decE r109.1 r109.2 (by omega) (by omega), ck_t, ck_t, lt_e, lt_e, wa_e (k := 109)]
  have r9 : PER Fv AN T C pM pE ND CN PN SN UN FN (wa w2 109 p 0) := PER_fr r2 f9 (by decide) (by decide)
  have f29 : FR [3, 133, 151, 152, 164, 165] [] [109, 115] [] w (wa w2 109 p 0) := FR.tr (FR.mo f2 (by decide) (by decide) (by decide) (by decide)) (FR.mo f9 (by decide) (by decide) (by decide) (by decide))
  generalize wa w2 109 p 0 = w9 at *
  have pgm9 := PER_pgm r9 pr
  have k133 : F w9 133 = p := by rw [FR.F f9 (by decide)]; exact c133
  have k152 : F w9 152 = 0 := by rw [FR.F f9 (by decide)]; exact c152
  have kE : F w9 149 = F w9 150 ∧ F w9 151 = 0 := by rw [FR.F f9 (by decide), FR.F f9 (by decide), FR.F f9 (by decide), g149, g150]; exact ⟨rfl, c151⟩
  have k149 : F w9 149 = 0 := by rw [FR.F f9 (by decide)]; exact g149
  have k150 : F w9 150 = 0 := by rw [FR.F f9 (by decide)]; exact g150
  have k165 : F w9 165 = 0 := by rw [FR.F f9 (by decide)]; exact c165
  have k164 : F w9 164 = ((b : Nat) : Int) := by rw [FR.F f9 (by decide)]; exact c164
  refine ok_br.mpr ⟨fun z5 => ?_, fun z5 => ok_br.mpr ⟨fun z1 => ?_, fun z1 => ?_⟩⟩
  · have e5 := of_decide_eq_true z5
    obtain ⟨-, q2, q3, q4, q5, q6, hh, q7, q8, q9, q10⟩ : FRH w2 UN FN p := by
      rcases ps with ps | ⟨fr, ro, rn, rh, cb, pc, ct, q, -, -, -, -, -, -, -, -, h9⟩ | ps
      · omega
      · rcases h9 with h9 | ⟨h9, -⟩ <;> omega
      · exact ps
    obtain ⟨n, ow, kd, bx, ix⟩ := MEX_of (opM := 0) (bnM := hh) d9 hp k133 (by rw [FR.A f9 (by decide)]; exact q3) (by rw [FR.A f9 (by decide)]; exact q8)
    have i9 := MEX_i ix (by omega)
    have F9 : FRS w9 T ND p 1 (fun _ => 0) (fun _ => 0) (fun _ => hh) (fun _ => 0) (fun _ => 0) (fun _ => 0) 0 0 := ⟨⟨by omega, by omega, by rw [FR.A f9 (by decide)]; exact q2⟩, ⟨rfl, rfl, rfl⟩, fun i hi => by
      have i0 : i = 0 := by omega
      subst i0
      rw [FR.A f9 (by decide), FR.A f9 (by decide), FR.A f9 (by decide)]
      exact ⟨q6, q5, q9, q7, Nat.zero_le _, Nat.zero_le _, Nat.zero_le _⟩, fun i hi => by omega, fun j hj => absurd hj (Nat.not_lt_zero j)⟩
    rw [frame0_x (fr := 1) k133 (by omega) (by rw [FR.A f9 (by decide)]; exact q2) (by omega), bnd_so, show (60 * p + (1 - 1) : Nat) = 60 * p from by omega]
    have in96 : inb (I ((60 * p : Nat) : Int)) (ln 96) = true := inb_at (k := 96) (n := 1440) rfl (by omega) (by omega) (by decide)
    have t96 : (I ((60 * p : Nat) : Int)).toNatClampNeg = 60 * p := by rw [I_tn (by omega) (by omega), Int.toNat_natCast]
    rw [in96, ck_t, ck_t, t96]
    have run : ∀ (c rr : Nat), CLS C w9 CN 0 0 0 0 hh 0 0 rr ((c : Nat) : Int) → c < CN → OK (fun v _ => (∃ PR, REST Fv AN T ND UN FN PR v) ∧ CGR w v) (fb_M_go_163 N (gg_M_go N N) w9 (I p) (I c)) := fun c rr hc hcn => by
      have rr' : rr < 16000 := by
        obtain ⟨c', d1, d2, d3, d4, d5, d6, d7, d8, d9', d10⟩ := hc
        have := (r9.1.2.2.2.1 c' d2).2.1
        omega
      unfold fb_M_go_163
      refine ok_bnd.mpr (ok_mono (clausesOf_ok (N := N) (mu := 600000000000000) (b := 0) (c := c) (r := rr) (bn := 0) (h2 := 0) (fr := 1) (ro := fun _ => 0) (rn := fun _ => 0) (rh := fun _ => hh) (cb := fun _ => 0) (pc := fun _ => 0) (ct := fun _ => 0) pgm9 F9 (by rw [FR.A f9 (by decide)]; exact q4) p9 k152 (by rw [Nat.zero_add]; show MEI Fv (PQ AN PR) PR w9 p n ow kd 0 (0 + hh) bx; rw [Nat.zero_add]; exact i9) (by omega) hc (CLG_new (b := b) (e := 16002) k165 k164 hb (by show 0 + rr ≤ _; omega) (by omega)) kE (by omega)) (fun x _ hx => ?_))
      obtain ⟨g1, g2⟩ := RES_goi (b := 0) hx hp wl9 hT k149 k150
      exact rest' x g1 (FR.tr (FR.mo f29 (by decide) (by decide) (by decide) (by decide)) (FR.mo g2 (by decide) (by decide) (by decide) (by decide)))
    rcases q10 with ⟨y1, xx, y2, y3, y4, c, y5, y6⟩ | ⟨y1, ff, y2, y3, y4⟩
    · obtain ⟨aa, hd, rr, v1, v2, v3, v4, v5, c3⟩ := r9.1.2.2.2.2.2 xx y2
      have c3' := c3
      obtain ⟨c', d1, d2', d3, -⟩ := c3'
      have e53 : A w9 53 xx = ((c : Nat) : Int) := by rw [FR.A f9 (by decide)]; exact y5
      obtain rfl : c' = c := by omega
      have e41 : A w9 41 c' = 0 := by rw [FR.A f9 (by decide)]; exact y6
      have e54 : A w9 54 xx = ((hh : Nat) : Int) := by rw [FR.A f9 (by decide)]; exact y4
      obtain rfl : aa = 0 := by omega
      obtain rfl : hd = hh := by omega
      rw [I_A' (show A w9 96 (60 * p) = -1 by rw [FR.A f9 (by decide)]; exact y1)]
      refine ok_br.mpr ⟨fun _ => ?_, fun z => absurd rfl (of_decide_eq_false z)⟩
      rw [inb_at (k := 170) (n := 24) rfl (by omega) (by omega) (by decide), ck_t, I_A' (show A w9 170 p = ((xx : Nat) : Int) by rw [FR.A f9 (by decide)]; exact y3), inb_at (k := 53) (n := 1400) rfl (by omega) (by omega) (by decide), ck_t, I_tn (x := (xx : Int)) (by omega) (by omega), Int.toNat_natCast, I_A' e53]
      exact run c' rr (by rw [← e53]; exact c3) d2'
    · obtain ⟨aa, rr, v1, v2, c3⟩ := r9.1.2.2.2.2.1 ff y2
      have c3' := c3
      obtain ⟨c', d1, d2', d3, -⟩ := c3'
      have e48 : A w9 48 ff = 0 := by rw [FR.A f9 (by decide)]; exact y4
      obtain rfl : aa = 0 := by omega
      subst y1
      rw [I_A' (show A w9 96 (60 * p) = ((ff : Nat) : Int) by rw [FR.A f9 (by decide)]; exact y3), show (-(I 1) : Int32) = I (-1) from rfl, decE (by omega) (by omega) (by omega) (by omega), decide_eq_false (by omega), br_fq, inb_at (k := 50) (n := 1000) rfl (by omega) (by omega) (by decide), ck_t, I_tn (x := (ff : Int)) (by omega) (by omega), Int.toNat_natCast, I_A' d1]
      exact run c' rr (by rw [← d1]; exact c3) d2'
  · have e1 := of_decide_eq_true z1
    have fz : FRZ w2 T ND p := by
      rcases ps with ps | ps | ⟨ps, -⟩
      · omega
      · exact ps
      · omega
    obtain ⟨fr, ro, rn, rh, cb, pc, ct, q, n, ow, kd, bx, aq, hG, hs⟩ := FRZ_atq fz d2 hp c133 n3
    obtain ⟨s1, s2, s3, s4⟩ : A w2 109 p = 1 ∧ A w2 23 q = 27 ∧ (A w2 31 q = -1 → w2.2.2.2 111 p = -1) ∧ 0 ≤ A w2 110 p := by
      rcases hs with hs | hs
      · omega
      · exact hs
    obtain ⟨i, hF, a98, a4, a5, a6⟩ := aq
    have hf := hF.1
    obtain ⟨n', ow', kd', bx', ix⟩ := MEX_of (opM := ro (fr - 1) + tH T q) (bnM := rn (fr - 1) + rh (fr - 1) + tM T q) d9 hp k133 (by rw [FR.A f9 (by decide)]; exact i.2.2.2.2.2.2.2.2.2.1.1) (by rw [FR.A f9 (by decide)]; exact i.2.2.2.2.2.2.2.2.2.2.1.1)
    have aq9 : ATQ Fv (PQ AN PR) PR T ND p w9 fr ro rn rh cb pc ct q n' ow' kd' bx' := ⟨MEX_i ix (by omega), FRS_fr hF f9 (by decide) (by decide) (by decide) (by decide) (by decide) (by decide) (by decide) (by decide) (by decide) (by decide), by rw [FR.A f9 (by decide)]; exact a98, a4, a5, by rw [FR.A f9 (by decide)]; exact a6⟩
    have sRb : sR T pc (fr - 1) ≤ 16000 * (fr - 1) := sR_le (fr - 1) (fun j hj => (r2.1.2.2.1 _ (hF.2.2.2.1 j (by omega)).2.1).1.2.2.2.2.2.1.2)
    have tRb := (r2.1.2.2.1 q a4).1.2.2.2.2.2.1.2
    rw [frame0_x (fr := fr) k133 (by omega) (by rw [FR.A f9 (by decide)]; exact hf.2.2) ⟨hf.1, hf.2.1⟩, bnd_so]
    refine ok_ck.mpr ⟨inb_at (k := 98) (n := 1440) rfl (by omega) (by omega) (by decide), ?_⟩
    rw [I_tn (x := ((60 * p + (fr - 1) : Nat) : Int)) (by omega) (by omega), Int.toNat_natCast, I_A' aq9.2.2.1]
    refine ok_bnd.mpr (ok_mono (goOnWith_ok (N := N) (mu := 600000000000000) (C := C) (CN := CN) aq9 p9 k152 (CLG_new (b := b) (e := 0) k165 k164 hb (by omega) (by omega)) pgm9 hG (by rw [FR.A f9 (by decide)]; exact s2) (fun z => by rw [FR.A f9 (by decide)] at z; rw [f9.2.2.2 111 (by decide)]; exact s3 z) (by rw [FR.A f9 (by decide)]; exact s4) kE (by omega)) (fun x _ hx => ?_))
    obtain ⟨g1, g2⟩ := RES_goi (b := 0) hx hp wl9 hT k149 k150
    exact rest' x g1 (FR.tr (FR.mo f29 (by decide) (by decide) (by decide) (by decide)) (FR.mo g2 (by decide) (by decide) (by decide) (by decide)))
  · have e5 := of_decide_eq_false z5
    have e1 := of_decide_eq_false z1
    have fz : FRZ w2 T ND p := by
      rcases ps with ps | ps | ⟨ps, -⟩
      · omega
      · exact ps
      · omega
    obtain ⟨fr, ro, rn, rh, cb, pc, ct, q, n, ow, kd, bx, aq, hG, hs⟩ := FRZ_atq fz d2 hp c133 n3
    have s1 : A w2 109 p = 0 := by
      rcases hs with hs | ⟨hs, -⟩
      · exact hs
      · omega
    have hF := aq.2.1
    have hf := hF.1
    have a4 := aq.2.2.2.1
    have sRb : sR T pc (fr - 1) ≤ 16000 * (fr - 1) := sR_le (fr - 1) (fun j hj => (r2.1.2.2.1 _ (hF.2.2.2.1 j (by omega)).2.1).1.2.2.2.2.2.1.2)
    have tRb := (r2.1.2.2.1 q a4).1.2.2.2.2.2.1.2
    refine rest' w2 ⟨PR, hp, Or.inr (Or.inr (Or.inr ⟨599999999999999, by omega, fr, ro, rn, rh, cb, pc, ct, q, n, ow, kd, bx, aq, s1, Or.inl ⟨hG, c152, ?_⟩⟩)), wl2, fun _ _ => by rw [g149, g150]⟩ (FR.mo f2 (by decide) (by decide) (by decide) (by decide))
    refine ⟨by omega, by omega, by omega, ?_⟩
    rw [c164, c165]
    omega
theorem go_ok {a b : Int32} (h : F w 87 = 0 ∨ (∃ PR, REST Fv AN T ND UN FN PR w) ∧ PER Fv AN T C pM pE ND CN PN SN UN FN w) (hN : 700000000000000 < N) : OK (fun v _ => FR [3] [] [] [] w v ∨ (F w 87 ≠ 0 ∧ (∃ PR, REST Fv AN T ND UN FN PR v) ∧ CGR w v)) (fm_M_go N w a b) := by
  unfold fm_M_go fb_M_go_0 fb_M_go_12 fb_M_go_56 fb_M_go_60
  have bad : ∀ (x y t : Int32), t ≠ 0 → OK (fun v _ => FR [3] [] [] [] w v ∨ (F w 87 ≠ 0 ∧ (∃ PR, REST Fv AN T ND UN FN PR v) ∧ CGR w v)) (fb_M_go_61 N (gg_M_go N N) w x y t) := fun x y t ht => by
    unfold fb_M_go_61
    refine ok_lt.mpr (ok_br.mpr ⟨fun z => absurd (of_decide_eq_true z) ht, fun _ => ok_some.mpr (Or.inl ?_)⟩)
    rw [I_of t, wi_e]
    exact FR.wi FR.rf (by decide)
  have b1 := bad a b 1 (by decide)
  have b2 := bad a b 2 (by decide)
  have b3 := bad a b 3 (by decide)
  have rb := ti_rng b
  refine ok_br.mpr ⟨fun _ => b1, fun z0 => ok_br.mpr ⟨fun z500 => ?_, fun _ => b1⟩⟩
  obtain ⟨PR, hPR⟩ : ∃ PR : Nat, F w 87 ≠ 0 → REST Fv AN T ND UN FN PR w ∧ PER Fv AN T C pM pE ND CN PN SN UN FN w := by
    rcases h with h | ⟨⟨PR, h1⟩, h2⟩
    · exact ⟨0, fun z => absurd h z⟩
    · exact ⟨PR, fun _ => ⟨h1, h2⟩⟩
  refine ok_bnd.mpr (ok_mono (isProcess_ok (N := N) (PR := PR) (fun z => (hPR z).1.1.1)) (fun v r hv => ?_))
  obtain ⟨v1, v2⟩ := hv
  subst v1
  refine ok_br.mpr ⟨fun _ => b2, fun zr => ?_⟩
  obtain ⟨n87, p, hp, ea⟩ : F v 87 ≠ 0 ∧ ∃ p : Nat, p < PR ∧ a = I p := by
    rcases v2 with v2 | ⟨-, v2⟩
    · exact absurd v2 (of_decide_eq_false zr)
    · exact v2
  obtain ⟨rest, per⟩ := hPR n87
  have pr := rest.1.1.2
  have e0 : b = I b.toInt := I_of b
  rw [e0, lit0q, decL rb.1 rb.2 (by omega) (by omega)] at z0
  rw [e0, lit500, decI rb.1 rb.2 (by omega) (by omega)] at z500
  have c0 := of_decide_eq_false z0
  have c5 := of_decide_eq_true z500
  have eb : b = I ((b.toInt.toNat : Nat) : Int) := by rw [show ((b.toInt.toNat : Nat) : Int) = b.toInt from by omega]; exact e0
  rw [ea] at b1 b2 b3 ⊢
  have in9 : inb (I (p : Int)) (ln 109) = true := inb_at (k := 109) (n := 24) rfl (by omega) (by omega) (by decide)
  have t9 : (I (p : Int)).toNatClampNeg = p := by rw [I_tn (by omega) (by omega), Int.toNat_natCast]
  rw [in9, ck_t, ck_t, t9]
  have r9 := A_r v 109 p
  have go : A v 109 p ≠ 3 → OK (fun w2 _ => FR [3] [] [] [] v w2 ∨ (F v 87 ≠ 0 ∧ (∃ PR, REST Fv AN T ND UN FN PR w2) ∧ CGR v w2)) (fb_M_go_61 N (gg_M_go N N) v (I p) b 0) := fun h3 => by
    rw [eb]
    exact ok_mono (go_start (N := N) (i6 := v) hp (by omega) rest per h3 hN) (fun y _ hy => Or.inr ⟨n87, hy⟩)
  rw [I_A (k := 109), show (3 : Int32) = I 3 from rfl, decE r9.1 r9.2 (by omega) (by omega)]
  refine ok_br.mpr ⟨fun _ => b3, fun z3 => ok_br.mpr ⟨fun _ => ?_, fun _ => go (of_decide_eq_false z3)⟩⟩
  refine ok_bnd.mpr (ok_mono (mayGo_ok (N := N) (w := v) (by omega)) (fun x r hx => ?_))
  subst hx
  exact ok_br.mpr ⟨fun _ => b3, fun _ => go (of_decide_eq_false z3)⟩
end
end
section
def KEP (w : MS) : Prop := F w 140 = -1 ∧ (0 ≤ A w 89 24 ∧ A w 89 24 ≤ 500) ∧ (∀ i, 0 ≤ A w 127 i ∧ A w 127 i ≤ 100) ∧ (∀ i, -1 ≤ A w 97 i ∧ A w 97 i < 1400) ∧ ∀ i, 0 ≤ A w 132 i ∧ A w 132 i ≤ 100
section
variable {Fv : Int64 → Int64 → Prop} {P P2 : Int64 → Prop} {u v w w2 x y : MS} {PR PR2 N p n n2 opM bnM bxM bx2 ND fr k tp mu CN PN SN UN FN rq q m h mm AN z j : Nat} {ow kd ow2 kd2 ro rn rh cb pc ct pM pE : Nat → Nat} {T : TY} {C : CY}
theorem REST_kep (r : REST Fv AN T ND UN FN PR w) : KEP w := by
  obtain ⟨d, hw, -, -⟩ := r
  obtain ⟨n4, ow4, kd4, d3a, d3b, d3c⟩ := d.2.2.1
  exact ⟨d.2.2.2.1, by omega, hw.2.2.2.1, hw.2.2.2.2.1, hw.2.2.2.2.2.1⟩
theorem KEP_fr {is ls as js : List Nat} (k : KEP w) (f : FR is ls as js w v) (hi : 140 ∉ is) (ha : ∀ k, k ∈ [89, 97, 127, 132] → k ∉ as) : KEP v :=
  ⟨by rw [FR.F f hi]; exact k.1, by rw [FR.A f (ha _ (by decide))]; exact k.2.1, fun i => by rw [FR.A f (ha _ (by decide))]; exact k.2.2.1 i, fun i => by rw [FR.A f (ha _ (by decide))]; exact k.2.2.2.1 i, fun i => by rw [FR.A f (ha _ (by decide))]; exact k.2.2.2.2 i⟩
theorem HP_garb {h : Nat → Int64} : HP h n (fun i => i + 1) (fun _ => 0) Fv P := fun t ht g => by
  rcases g with ⟨a, -⟩ | ⟨-, -, -, a, -⟩
  · exact absurd ht a
  · exfalso; have : vn t + 1 = vn t := a; omega
theorem DW_zero (k : KEP w) (h1 : F w 118 = 0) (h2 : F w 149 = 0) (h3 : F w 150 = 0) : DW Fv P 0 w := by
  obtain ⟨k1, k2, -⟩ := k
  exact ⟨⟨h1, by omega⟩, fun p hp => absurd hp (Nat.not_lt_zero p), ⟨(A w 89 24).toNat, fun i => i + 1, fun _ => 0, by omega, by omega, HP_garb⟩, k1, ⟨0, 0, h2, h3, Nat.le_refl _, Nat.zero_le _, fun i h1 h2 => by omega⟩, fun p hp => absurd hp (Nat.not_lt_zero p)⟩
theorem WLD_zero (k : KEP w) (h1 : F w 125 = 0) (h2 : F w 128 = 0) : WLD w T ND UN FN 0 p := by
  obtain ⟨-, -, k3, k4, k5⟩ := k
  exact ⟨⟨fun p hp => absurd hp (Nat.not_lt_zero p), fun p q hp => absurd hp (Nat.not_lt_zero p)⟩, ⟨by omega, by omega, fun i hi => by omega⟩, by omega, k3, k4, k5, fun z hz => absurd hz (Nat.not_lt_zero z)⟩
def BGR (u w : MS) : Prop := FR [3, 87, 118, 119, 120, 121, 125, 128, 149, 150] [] [89, 90, 92, 94, 95, 96, 97, 98, 99, 100, 101, 106, 108, 109, 110, 112, 113, 114, 115, 117, 132, 170] [111] u w
set_option maxRecDepth 100000 in
theorem begin_ok {a : Int32} (k : KEP w) (h : F w 86 ≠ 0 → PER Fv AN T C pM pE ND CN PN SN UN FN w) (hN : 60000 ≤ N) : OK (fun v _ => FR [3] [] [] [] w v ∨ (F w 86 ≠ 0 ∧ F v 87 = 1 ∧ REST Fv AN T ND UN FN 1 v ∧ BGR w v)) (fm_M_begin N w a) := by
  unfold fm_M_begin fb_M_begin_0 fb_M_begin_24
  have bad : ∀ (x t : Int32), t ≠ 0 → OK (fun v _ => FR [3] [] [] [] w v ∨ (F w 86 ≠ 0 ∧ F v 87 = 1 ∧ REST Fv AN T ND UN FN 1 v ∧ BGR w v)) (fb_M_begin_42 N () w x t) := fun x t ht => by
    unfold fb_M_begin_42
    refine ok_lt.mpr (ok_br.mpr ⟨fun z => absurd (of_decide_eq_true z) ht, fun _ => ok_some.mpr (Or.inl ?_)⟩)
    rw [I_of t, wi_e]
    exact FR.wi FR.rf (by decide)
  have b1 := bad a 1 (by decide)
  have b2 := bad a 2 (by decide)
  have b3 := bad a 3 (by decide)
  refine ok_br.mpr ⟨fun _ => b1, fun z86 => ok_br.mpr ⟨fun _ => b2, fun z0 => ok_br.mpr ⟨fun z1 => ?_, fun _ => b2⟩⟩⟩
  have n86 : F w 86 ≠ 0 := fun e => of_decide_eq_false z86 (by rw [I_F' e]; rfl)
  have r := h n86
  have hT := PRG_26 r.1
  have fn := r.1.1.2.2.2.2.1
  have f52 : F w 52 = ((FN : Nat) : Int) := r.1.1.2.2.2.2.2.1
  have ra := ti_rng a
  have ea : a = I a.toInt := I_of a
  rw [ea, lit0q, decL ra.1 ra.2 (by omega) (by omega)] at z0
  rw [ea, I_F' f52, decL ra.1 ra.2 (by omega) (by omega)] at z1
  have c0 := of_decide_eq_false z0
  have c1 := of_decide_eq_true z1
  obtain ⟨f, hf, hf2⟩ : ∃ f : Nat, a = I f ∧ (f : Int) = a.toInt := ⟨a.toInt.toNat, by rw [show ((a.toInt.toNat : Nat) : Int) = a.toInt from by omega]; exact ea, by omega⟩
  have fF : f < FN := by omega
  clear c0 c1 z0 z1 ea ra hf2
  subst hf
  obtain ⟨aa, rr, y1, y2, -⟩ := r.1.2.2.2.2.1 f fF
  refine ok_ck.mpr ⟨inb_at (k := 48) (n := 1000) rfl (by omega) (by omega) (by decide), ?_⟩
  rw [I_tn (x := (f : Int)) (by omega) (by omega), Int.toNat_natCast, I_A' y1, lit0q, decI (by omega) (by omega) (by omega) (by omega)]
  refine ok_br.mpr ⟨fun za => ?_, fun _ => b3⟩
  have aa0 : aa = 0 := by have := of_decide_eq_true za; omega
  unfold fb_M_begin_42
  refine ok_lt.mpr ?_
  rw [show upI w 3 (I 0) = wi w 3 0 from rfl, br_t_of (decide_eq_true (show (wi w 3 0).1 3 = 0 from rfl))]
  refine ok_lt.mpr (ok_lt.mpr (ok_lt.mpr (ok_lt.mpr (ok_lt.mpr (ok_lt.mpr (ok_lt.mpr (ok_lt.mpr (ok_lt.mpr ?_))))))))
  have st : upI (upI (upI (upI (upI (upI (upI (upI (upI (wi w 3 0) 87 1) 118 0) 119 0) 120 0) 121 0) 125 0) 128 0) 149 0) 150 0 = wi (wi (wi (wi (wi (wi (wi (wi (wi (wi w 3 0) 87 1) 118 0) 119 0) 120 0) 121 0) 125 0) 128 0) 149 0) 150 0 := rfl
  rw [st]
  have f1 : FR [3, 87, 118, 119, 120, 121, 125, 128, 149, 150] [] [] [] w (wi (wi (wi (wi (wi (wi (wi (wi (wi (wi w 3 0) 87 1) 118 0) 119 0) 120 0) 121 0) 125 0) 128 0) 149 0) 150 0) := FR.wi (FR.wi (FR.wi (FR.wi (FR.wi (FR.wi (FR.wi (FR.wi (FR.wi (FR.wi FR.rf (by decide)) (by decide)) (by decide)) (by decide)) (by decide)) (by decide)) (by decide)) (by decide)) (by decide)) (by decide)
  have e87 : F (wi (wi (wi (wi (wi (wi (wi (wi (wi (wi w 3 0) 87 1) 118 0) 119 0) 120 0) 121 0) 125 0) 128 0) 149 0) 150 0) 87 = 1 := by rw [F_ne (by decide), F_ne (by decide), F_ne (by decide), F_ne (by decide), F_ne (by decide), F_ne (by decide), F_ne (by decide), F_ne (by decide), F_wi (by omega) (by omega), if_pos rfl]
  have e118 : F (wi (wi (wi (wi (wi (wi (wi (wi (wi (wi w 3 0) 87 1) 118 0) 119 0) 120 0) 121 0) 125 0) 128 0) 149 0) 150 0) 118 = ((0 : Nat) : Int) := by rw [F_ne (by decide), F_ne (by decide), F_ne (by decide), F_ne (by decide), F_ne (by decide), F_ne (by decide), F_ne (by decide), F_wi (by omega) (by omega), if_pos rfl]; rfl
  have e125 : F (wi (wi (wi (wi (wi (wi (wi (wi (wi (wi w 3 0) 87 1) 118 0) 119 0) 120 0) 121 0) 125 0) 128 0) 149 0) 150 0) 125 = 0 := by rw [F_ne (by decide), F_ne (by decide), F_ne (by decide), F_wi (by omega) (by omega), if_pos rfl]
  have e128 : F (wi (wi (wi (wi (wi (wi (wi (wi (wi (wi w 3 0) 87 1) 118 0) 119 0) 120 0) 121 0) 125 0) 128 0) 149 0) 150 0) 128 = 0 := by rw [F_ne (by decide), F_ne (by decide), F_wi (by omega) (by omega), if_pos rfl]
  have e149 : F (wi (wi (wi (wi (wi (wi (wi (wi (wi (wi w 3 0) 87 1) 118 0) 119 0) 120 0) 121 0) 125 0) 128 0) 149 0) 150 0) 149 = 0 := by rw [F_ne (by decide), F_wi (by omega) (by omega), if_pos rfl]
  have e150 : F (wi (wi (wi (wi (wi (wi (wi (wi (wi (wi w 3 0) 87 1) 118 0) 119 0) 120 0) 121 0) 125 0) 128 0) 149 0) 150 0) 150 = 0 := by rw [F_wi (by omega) (by omega), if_pos rfl]
  clear st
  generalize wi (wi (wi (wi (wi (wi (wi (wi (wi (wi w 3 0) 87 1) 118 0) 119 0) 120 0) 121 0) 125 0) 128 0) 149 0) 150 0 = w1 at *
  have k1 := KEP_fr k f1 (by decide) (by decide)
  rw [newProcess_e e118 (by omega), bnd_so]
  have d1 : DW Fv (PQ AN 1) (0 + 1) (npS w1 0) := DW_grow (DW_zero (Fv := Fv) (P := PQ AN 0) k1 e118 e149 e150) (PQ_mo (by omega)) (by omega)
  have sp := SPR_np (PR := 0) (u := w1)
  have n48 : ∀ i, A (npS w1 0) 48 i = A w1 48 i := fun i => FR.A np_fr (by decide)
  obtain ⟨s1, hs1⟩ : ∃ s1, s1 = npS w1 0 := ⟨_, rfl⟩
  have r89 : A s1 92 0 = 0 ∧ A s1 106 0 = 0 ∧ A s1 94 0 = 0 ∧ A s1 95 0 = 1 ∧ A s1 109 0 = 5 ∧ A s1 99 0 = 0 ∧ A s1 100 0 = 0 ∧ A s1 101 0 = 0 := by
    rw [hs1]
    refine ⟨?_, ?_, ?_, ?_, ?_, ?_, ?_, ?_⟩
    · rw [np_row (by decide), if_pos rfl]
    · rw [np_row (by decide), if_pos rfl]
    · rw [np_row (by decide), if_pos rfl]
    · rw [np_95, if_pos rfl]
    · rw [np_109, if_pos rfl]
    · rw [np_fr0 (by decide), if_pos rfl]
    · rw [np_fr0 (by decide), if_pos rfl]
    · rw [np_fr0 (by decide), if_pos rfl]
  have fnp : FR [118] [] [89, 90, 92, 94, 95, 96, 97, 98, 99, 100, 101, 106, 108, 109, 110, 112, 113, 114, 115, 117, 132] [111] w1 s1 := by rw [hs1]; exact np_fr
  rw [← hs1] at d1 sp n48 ⊢
  clear hs1
  rw [show (0 : Int32).toNatClampNeg = 0 from rfl, show inb (0 : Int32) (ln 96) = true from by decide, ck_t, lt_e, wa_e, show inb (0 : Int32) (ln 170) = true from by decide, ck_t, lt_e, litm1q, wa_e]
  have f2 : FR [] [] [96, 170] [] s1 (wa (wa s1 96 0 (f : Int)) 170 0 (-1)) := FR.wa (FR.wa FR.rf (by decide)) (by decide)
  have o2 : OTF 0 s1 (wa (wa s1 96 0 (f : Int)) 170 0 (-1)) := OTF.tr (OTF_96 (by omega) (by omega) (by omega)) (OTF_170 (by omega) (by omega))
  have a96 : A (wa (wa s1 96 0 (f : Int)) 170 0 (-1)) 96 0 = ((f : Nat) : Int) := by rw [A_ne (by decide), A_eq (by omega) (by omega), if_pos rfl]
  generalize wa (wa s1 96 0 (f : Int)) 170 0 (-1) = w2 at *
  have d2 : DW Fv (PQ AN 1) 1 w2 := DW_fr d1 f2 (by decide) (by decide) (by decide) (by decide) (by decide) (by decide) (by decide) (by decide) (by decide) (by decide) (by decide) (by decide) (by decide) (by decide) (by decide) (by decide) (by decide)
  have s2 : SPR 0 w1 w2 := SPR.tr sp f2 o2 (by decide) (by decide) (by decide) (by decide) (by decide) (by decide) (fun y _ => FR.A f2 (by decide))
  have fw12 : FR [118] [] [89, 90, 92, 94, 95, 96, 97, 98, 99, 100, 101, 106, 108, 109, 110, 112, 113, 114, 115, 117, 132, 170] [111] w1 w2 := FR.tr (FR.mo fnp (by decide) (by decide) (by decide) (by decide)) (FR.mo f2 (by decide) (by decide) (by decide) (by decide))
  have new : PSX w2 T ND UN FN 0 := by
    obtain ⟨q1, q2, q3, q4, q5, q6, q7, q8⟩ := r89
    refine Or.inr (Or.inr ⟨by rw [FR.A f2 (by decide)]; exact q5, by rw [FR.A f2 (by decide)]; exact q4, by rw [FR.A f2 (by decide)]; exact q1, by rw [FR.A f2 (by decide)]; exact q2, by rw [FR.A f2 (by decide)]; exact q6, by rw [FR.A f2 (by decide)]; exact q7, 0, by omega, by rw [FR.A f2 (by decide), q3]; rfl, by rw [FR.A f2 (by decide)]; exact q8, Or.inr ⟨rfl, f, fF, a96, by rw [FR.A f2 (by decide), n48, FR.A f1 (by decide), y1, aa0]; rfl⟩⟩)
  have w0 : WLD w1 T ND UN FN 0 24 := WLD_zero k1 e125 e128
  have ww : WLD w2 T ND UN FN (0 + 1) 24 := WLD_grow w0 hT (by omega) s2.2.1 (fun k hk i => FR.A s2.1 (by revert hk; unfold KP; simp; omega)) s2.2.2.1 (fun i => FR.A s2.1 (by decide)) s2.2.2.2.1 (FR.F s2.1 (by decide)) (fun i => FR.A s2.1 (by decide)) (fun i => FR.A s2.1 (by decide)) (FR.F s2.1 (by decide)) (fun i => FR.A s2.1 (by decide)) s2.2.2.2.2 new
  exact ok_some.mpr (Or.inr ⟨n86, by rw [FR.F fw12 (by decide)]; exact e87, ⟨d2, ww, by rw [FR.F fw12 (by decide)]; exact e149, by rw [FR.F fw12 (by decide)]; exact e150⟩, FR.tr (FR.mo f1 (by decide) (by decide) (by decide) (by decide)) (FR.mo fw12 (by decide) (by decide) (by decide) (by decide))⟩)
theorem clock_ok {a : Int32} : OK (fun v _ => FR [3, 120] [] [] [] w v) (fm_M_clock N w a) := by
  have any : ∀ t : Int32, OK (fun v _ => FR [3, 120] [] [] [] w v) (fb_M_clock_50 N () w a t) := fun t => by
    unfold fb_M_clock_50
    refine ok_lt.mpr ?_
    rw [I_of t, wi_e]
    refine ok_br.mpr ⟨fun _ => ok_lt.mpr (ok_some.mpr ?_), fun _ => ok_some.mpr (FR.wi FR.rf (by decide))⟩
    rw [I_of ((wi w 3 t.toInt).1 120 + a), wi_e]
    exact FR.wi (FR.wi FR.rf (by decide)) (by decide)
  unfold fm_M_clock fb_M_clock_0 fb_M_clock_34 fb_M_clock_38
  exact ok_br.mpr ⟨fun _ => any 1, fun _ => ok_br.mpr ⟨fun _ => any 1, fun _ => ok_br.mpr ⟨fun _ => ok_br.mpr ⟨fun _ => any 2, fun _ => any 0⟩, fun _ => ok_br.mpr ⟨fun _ => ok_br.mpr ⟨fun _ => any 2, fun _ => any 0⟩, fun _ => any 1⟩⟩⟩⟩
end
end
section
section
variable {Fv : Int64 → Int64 → Prop} {P P2 : Int64 → Prop} {u v w w2 x y : MS} {PR PR2 N p n n2 opM bnM bxM bx2 ND fr k tp mu CN PN SN UN FN rq q m h mm AN z j : Nat} {ow kd ow2 kd2 ro rn rh cb pc ct pM pE : Nat → Nat} {T : TY} {C : CY}
theorem three : upI w 3 0 = wi w 3 0 := rfl
theorem f3 : FR [3] [] [] [] w (wi w 3 0) := FR.wi FR.rf (by decide)
theorem count_ok {a : Int32} : OK (fun v _ => FR [3] [] [] [] w v) (fm_M_count N w a) := by
  unfold fm_M_count fb_M_count_0 fb_M_count_71 fb_M_count_87 fb_M_count_103 fb_M_count_124 fb_M_count_140 fb_M_count_156 fb_M_count_172 fb_M_count_188
  refine ok_lt.mpr ?_
  rw [three]
  have y : ∀ t : Int32, OK (fun v _ => FR [3] [] [] [] w v) (some (wi w 3 0, t)) := fun t => ok_some.mpr f3
  have b : ∀ (c : Bool) (s t : Int32), OK (fun v _ => FR [3] [] [] [] w v) (br c (some (wi w 3 0, s)) (some (wi w 3 0, t))) := fun c s t => ok_br.mpr ⟨fun _ => y s, fun _ => y t⟩
  exact ok_br.mpr ⟨fun _ => b _ _ _, fun _ => ok_br.mpr ⟨fun _ => b _ _ _, fun _ => ok_br.mpr ⟨fun _ => b _ _ _, fun _ => ok_br.mpr ⟨fun _ => y _, fun _ => ok_br.mpr ⟨fun _ => b _ _ _, fun _ => ok_br.mpr ⟨fun _ => b _ _ _, fun _ => ok_br.mpr ⟨fun _ => b _ _ _, fun _ => ok_br.mpr ⟨fun _ => b _ _ _, fun _ => ok_br.mpr ⟨fun _ => b _ _ _, fun _ => y _⟩⟩⟩⟩⟩⟩⟩⟩⟩
theorem letter_ok {a b : Int32} (h : F w 86 ≠ 0 → ATM w) : OK (fun v _ => FR [3] [] [] [] w v) (fm_M_letter N w a b) := by
  unfold fm_M_letter fb_M_letter_0 fb_M_letter_47
  refine ok_lt.mpr ?_
  rw [three]
  have y : ∀ t : Int32, OK (fun v _ => FR [3] [] [] [] w v) (some (wi w 3 0, t)) := fun t => ok_some.mpr f3
  refine ok_br.mpr ⟨fun _ => y _, fun z86 => ok_br.mpr ⟨fun _ => y _, fun z0 => ok_br.mpr ⟨fun _ => y _, fun z1 => ok_br.mpr ⟨fun _ => y _, fun z2 => ?_⟩⟩⟩⟩
  have n86 : F w 86 ≠ 0 := fun e => of_decide_eq_false z86 (by rw [show (wi w 3 0).1 86 = w.1 86 from rfl, I_F' e]; rfl)
  obtain ⟨a1, a2, a3⟩ := h n86
  have ra := ti_rng a
  have rb := ti_rng b
  have ea : a = I a.toInt := I_of a
  have eb : b = I b.toInt := I_of b
  rw [ea, lit0q, decL ra.1 ra.2 (by omega) (by omega)] at z0
  rw [ea, show (wi w 3 0).1 14 = w.1 14 from rfl, I_F (k := 14), decI (by omega) (by omega) ra.1 ra.2] at z1
  rw [eb, lit0q, decL rb.1 rb.2 (by omega) (by omega)] at z2
  have c0 := of_decide_eq_false z0
  have c1 := of_decide_eq_false z1
  have c2 := of_decide_eq_false z2
  obtain ⟨i, hi⟩ : ∃ i : Nat, a.toInt = i := ⟨a.toInt.toNat, by omega⟩
  obtain ⟨j, hj⟩ : ∃ j : Nat, b.toInt = j := ⟨b.toInt.toNat, by omega⟩
  rw [hi] at ea
  rw [hj] at eb
  obtain ⟨d1, d2, d3⟩ := a3 i (by omega)
  rw [ea, eb, lit1q, I_add, show (wi w 3 0).2.2.1 = w.2.2.1 from rfl]
  refine ok_ck.mpr ⟨inb_at (k := 13) (n := 2200) rfl (by omega) (by omega) (by decide), ok_ck.mpr ⟨inb_at (k := 13) (n := 2200) rfl (by omega) (by omega) (by decide), ?_⟩⟩
  rw [I_tn (x := (i : Int) + 1) (by omega) (by omega), I_tn (x := (i : Int)) (by omega) (by omega), Int.toNat_natCast, show ((i : Int) + 1).toNat = i + 1 from by omega, I_A (k := 13) (i := i), I_A (k := 13) (i := i + 1), I_sub, I_add, decL (by omega) (by omega) (by omega) (by omega)]
  refine ok_br.mpr ⟨fun zz => ok_ck.mpr ⟨inb_at (k := 13) (n := 2200) rfl (by omega) (by omega) (by decide), ok_ck.mpr ⟨inb_at (k := 12) (n := 5000) rfl (by omega) (by have := of_decide_eq_true zz; omega) (by decide), y _⟩⟩, fun _ => y _⟩
theorem printed_ok {a b : Int32} (h : F w 87 ≠ 0 → (0 ≤ F w 128 ∧ F w 128 ≤ 200) ∧ ∀ i, 0 ≤ A w 127 i ∧ A w 127 i ≤ 100) : OK (fun v _ => FR [3] [] [] [] w v) (fm_M_printed N w a b) := by
  unfold fm_M_printed fb_M_printed_0 fb_M_printed_38 fb_M_printed_53
  refine ok_lt.mpr ?_
  rw [three]
  have y : ∀ t : Int32, OK (fun v _ => FR [3] [] [] [] w v) (some (wi w 3 0, t)) := fun t => ok_some.mpr f3
  refine ok_br.mpr ⟨fun _ => y _, fun z87 => ok_br.mpr ⟨fun _ => y _, fun z0 => ok_br.mpr ⟨fun _ => y _, fun z1 => ok_br.mpr ⟨fun _ => y _, fun z2 => ?_⟩⟩⟩⟩
  have n87 : F w 87 ≠ 0 := fun e => of_decide_eq_false z87 (by rw [show (wi w 3 0).1 87 = w.1 87 from rfl, I_F' e]; rfl)
  obtain ⟨⟨a1, a2⟩, a3⟩ := h n87
  have ra := ti_rng a
  have rb := ti_rng b
  have ea : a = I a.toInt := I_of a
  have eb : b = I b.toInt := I_of b
  rw [ea, lit0q, decL ra.1 ra.2 (by omega) (by omega)] at z0
  rw [ea, show (wi w 3 0).1 128 = w.1 128 from rfl, I_F (k := 128), decI (by omega) (by omega) ra.1 ra.2] at z1
  rw [eb, lit0q, decL rb.1 rb.2 (by omega) (by omega)] at z2
  have c0 := of_decide_eq_false z0
  have c1 := of_decide_eq_false z1
  have c2 := of_decide_eq_false z2
  obtain ⟨i, hi⟩ : ∃ i : Nat, a.toInt = i := ⟨a.toInt.toNat, by omega⟩
  obtain ⟨j, hj⟩ : ∃ j : Nat, b.toInt = j := ⟨b.toInt.toNat, by omega⟩
  rw [hi] at ea
  rw [hj] at eb
  have d := a3 i
  rw [ea, eb, show (wi w 3 0).2.2.1 = w.2.2.1 from rfl]
  refine ok_ck.mpr ⟨inb_at (k := 127) (n := 200) rfl (by omega) (by omega) (by decide), ?_⟩
  rw [I_tn (x := (i : Int)) (by omega) (by omega), Int.toNat_natCast, I_A (k := 127), decL (by omega) (by omega) (by omega) (by omega), show (100 : Int32) = I 100 from rfl, I_mul, I_add]
  exact ok_br.mpr ⟨fun zz => ok_ck.mpr ⟨inb_at (k := 126) (n := 20000) rfl (by omega) (by have := of_decide_eq_true zz; omega) (by decide), y _⟩, fun _ => y _⟩
theorem shown_ok {a : Int32} (h : 0 ≤ F w 130 ∧ F w 130 ≤ 100) : OK (fun v _ => FR [3] [] [] [] w v) (fm_M_shown N w a) := by
  unfold fm_M_shown fb_M_shown_0 fb_M_shown_17 fb_M_shown_27
  refine ok_lt.mpr ?_
  rw [three]
  have y : ∀ t : Int32, OK (fun v _ => FR [3] [] [] [] w v) (some (wi w 3 0, t)) := fun t => ok_some.mpr f3
  refine ok_br.mpr ⟨fun _ => y _, fun z0 => ok_br.mpr ⟨fun z1 => ?_, fun _ => y _⟩⟩
  have ra := ti_rng a
  have ea : a = I a.toInt := I_of a
  rw [ea, lit0q, decL ra.1 ra.2 (by omega) (by omega)] at z0
  rw [ea, show (wi w 3 0).1 130 = w.1 130 from rfl, I_F (k := 130), decL ra.1 ra.2 (by omega) (by omega)] at z1
  have c0 := of_decide_eq_false z0
  have c1 := of_decide_eq_true z1
  obtain ⟨i, hi⟩ : ∃ i : Nat, a.toInt = i := ⟨a.toInt.toNat, by omega⟩
  rw [hi] at ea
  rw [ea]
  exact ok_ck.mpr ⟨inb_at (k := 129) (n := 100) rfl (by omega) (by omega) (by decide), y _⟩
theorem isP {a : Int32} (h : F w 87 ≠ 0 → F w 118 = ((PR : Nat) : Int) ∧ PR ≤ 24) : OK (fun v r => v = wi w 3 0 ∧ (r = 0 ∨ (r = 1 ∧ F w 87 ≠ 0 ∧ ∃ p : Nat, p < PR ∧ a = I p))) (fm_M_isProcess N (wi w 3 0) a) := by
  have e87 : F (wi w 3 0) 87 = F w 87 := FR.F f3 (by decide)
  refine ok_mono (isProcess_ok (N := N) (w := wi w 3 0) (PR := PR) (a := a) (fun z => ?_)) (fun v r hv => ⟨hv.1, ?_⟩)
  · rw [FR.F f3 (by decide)]; exact h (by rw [← e87]; exact z)
  · rcases hv.2 with z | ⟨z1, z2, z3⟩
    · exact Or.inl z
    · exact Or.inr ⟨z1, by rw [← e87]; exact z2, z3⟩
theorem link_ok {a b : Int32} (h : F w 87 ≠ 0 → (F w 118 = ((PR : Nat) : Int) ∧ PR ≤ 24) ∧ ∀ p, p < PR → LKR w PR p) : OK (fun v _ => FR [3] [] [] [] w v) (fm_M_link N w a b) := by
  unfold fm_M_link fb_M_link_0 fb_M_link_27 fb_M_link_42
  refine ok_lt.mpr ?_
  rw [three]
  have y : ∀ t : Int32, OK (fun v _ => FR [3] [] [] [] w v) (some (wi w 3 0, t)) := fun t => ok_some.mpr f3
  refine ok_bnd.mpr (ok_mono (isP (N := N) (PR := PR) (a := a) (fun z => (h z).1)) (fun v r hv => ?_))
  obtain ⟨v1, v2⟩ := hv
  subst v1
  refine ok_br.mpr ⟨fun _ => y _, fun zr => ok_br.mpr ⟨fun _ => y _, fun z0 => ?_⟩⟩
  obtain ⟨n87, p, hp, ea⟩ : F w 87 ≠ 0 ∧ ∃ p : Nat, p < PR ∧ a = I p := by
    rcases v2 with v2 | ⟨-, v2⟩
    · exact absurd v2 (of_decide_eq_false zr)
    · exact v2
  obtain ⟨⟨-, pr⟩, l⟩ := h n87
  obtain ⟨l1, l2, -⟩ := l p hp
  have rb := ti_rng b
  have eb : b = I b.toInt := I_of b
  rw [eb, lit0q, decL rb.1 rb.2 (by omega) (by omega)] at z0
  have c0 := of_decide_eq_false z0
  obtain ⟨j, hj⟩ : ∃ j : Nat, b.toInt = j := ⟨b.toInt.toNat, by omega⟩
  rw [hj] at eb
  rw [ea, eb, show (wi w 3 0).2.2.1 = w.2.2.1 from rfl]
  refine ok_ck.mpr ⟨inb_at (k := 117) (n := 24) rfl (by omega) (by omega) (by decide), ?_⟩
  rw [I_tn (x := (p : Int)) (by omega) (by omega), Int.toNat_natCast, I_A (k := 117), decL (by omega) (by omega) (by omega) (by omega), show (24 : Int32) = I 24 from rfl, I_mul, I_add]
  exact ok_br.mpr ⟨fun zz => ok_ck.mpr ⟨inb_at (k := 116) (n := 576) rfl (by omega) (by have := of_decide_eq_true zz; omega) (by decide), y _⟩, fun _ => y _⟩
theorem pc_loop {a b : Int32} {L : Nat} (hp : p < 24) (hL : F w 125 = ((L : Nat) : Int)) (h200 : L ≤ 200) : ∀ (m k : Nat) (c : Int32), k ≤ L → L - k < m → OK (fun v _ => v = w) (gg_M_process N m w (I p) a b c (I k)) := by
  intro m
  induction m with
  | zero => intro k c _ h; omega
  | succ m ih =>
    intro k c hk hm
    show OK _ (fb_M_process_146 N (gg_M_process N m) w (I p) a b c (I k))
    unfold fb_M_process_146 fb_M_process_355 fb_M_process_285 fb_M_process_309 fb_M_process_339 fb_M_process_175
    have y : ∀ t : Int32, OK (fun v (_ : Int32) => v = w) (some (w, t)) := fun t => ok_some.mpr rfl
    have i : ∀ k n, ln k = n → 24 ≤ n → n < 2147483648 → inb (I (p : Int)) (ln k) = true := fun k n hk h1 h2 => inb_at hk (by omega) (by omega) h2
    rw [I_F' hL, decI (by omega) (by omega) (by omega) (by omega)]
    have z355 : OK (fun v (_ : Int32) => v = w) (br (decide (b = 0)) (ck (inb (I (p : Int)) (ln 115)) (some (w, w.2.2.1 115 (I (p : Int)).toNatClampNeg))) (some (w, 0))) := ok_br.mpr ⟨fun _ => ok_ck.mpr ⟨i 115 24 rfl (by decide) (by decide), y _⟩, fun _ => y _⟩
    refine ok_br.mpr ⟨fun _ => ok_br.mpr ⟨fun _ => ok_ck.mpr ⟨i 95 24 rfl (by decide) (by decide), y _⟩, fun _ => ok_br.mpr ⟨fun _ => ok_ck.mpr ⟨i 89 25 rfl (by decide) (by decide), y _⟩, fun _ => ok_br.mpr ⟨fun _ => z355, fun _ => ok_br.mpr ⟨fun _ => ok_ck.mpr ⟨i 108 24 rfl (by decide) (by decide), y _⟩, fun _ => ok_br.mpr ⟨fun _ => ok_ck.mpr ⟨i 117 24 rfl (by decide) (by decide), y _⟩, fun _ => ok_br.mpr ⟨fun _ => y _, fun _ => ok_br.mpr ⟨fun _ => ok_ck.mpr ⟨i 112 24 rfl (by decide) (by decide), ok_br.mpr ⟨fun _ => y _, fun _ => y _⟩⟩, fun _ => ok_br.mpr ⟨fun _ => ok_ck.mpr ⟨i 113 24 rfl (by decide) (by decide), y _⟩, fun _ => ok_br.mpr ⟨fun _ => z355, fun _ => ok_br.mpr ⟨fun _ => ok_br.mpr ⟨fun _ => y _, fun _ => ok_ck.mpr ⟨i 111 24 rfl (by decide) (by decide), ok_br.mpr ⟨fun _ => ok_ck.mpr ⟨i 111 24 rfl (by decide) (by decide), ok_br.mpr ⟨fun _ => ok_ck.mpr ⟨i 111 24 rfl (by decide) (by decide), y _⟩, fun _ => y _⟩⟩, fun _ => y _⟩⟩⟩, fun _ => z355⟩⟩⟩⟩⟩⟩⟩⟩⟩⟩, fun zz => ?_⟩
    have zz' := of_decide_eq_false zz
    rw [lit1q, I_add, show (k : Int) + 1 = ((k + 1 : Nat) : Int) from by omega]
    exact ok_ck.mpr ⟨inb_at (k := 123) (n := 4000) rfl (by omega) (by omega) (by decide), ok_br.mpr ⟨fun _ => ih (k + 1) _ (by omega) (by omega), fun _ => ih (k + 1) _ (by omega) (by omega)⟩⟩
theorem process_ok {a b : Int32} (h : F w 87 ≠ 0 → (F w 118 = ((PR : Nat) : Int) ∧ PR ≤ 24) ∧ WTQ w PR) (hN : 1000 ≤ N) : OK (fun v _ => FR [3] [] [] [] w v) (fm_M_process N w a b) := by
  unfold fm_M_process fb_M_process_0 fb_M_process_23
  refine ok_lt.mpr ?_
  rw [three]
  have y : ∀ t : Int32, OK (fun v _ => FR [3] [] [] [] w v) (some (wi w 3 0, t)) := fun t => ok_some.mpr f3
  refine ok_bnd.mpr (ok_mono (isP (N := N) (PR := PR) (a := a) (fun z => (h z).1)) (fun v r hv => ?_))
  obtain ⟨v1, v2⟩ := hv
  subst v1
  refine ok_br.mpr ⟨fun _ => y _, fun zr => ok_br.mpr ⟨fun _ => y _, fun _ => ok_br.mpr ⟨fun _ => ?_, fun _ => y _⟩⟩⟩
  obtain ⟨n87, p, hp, ea⟩ : F w 87 ≠ 0 ∧ ∃ p : Nat, p < PR ∧ a = I p := by
    rcases v2 with v2 | ⟨-, v2⟩
    · exact absurd v2 (of_decide_eq_false zr)
    · exact v2
  obtain ⟨⟨-, pr⟩, w1, w2, -⟩ := h n87
  rw [ea]
  have i : ∀ k n, ln k = n → 24 ≤ n → n < 2147483648 → inb (I (p : Int)) (ln k) = true := fun k n hk h1 h2 => inb_at hk (by omega) (by omega) h2
  obtain ⟨L, hL⟩ : ∃ L : Nat, F w 125 = L := ⟨(F w 125).toNat, by omega⟩
  have y56 : ∀ s t : Int32, OK (fun v _ => FR [3] [] [] [] w v) (fb_M_process_56 N (gg_M_process N N) (wi w 3 0) (I p) b s t) := fun s t => by
    unfold fb_M_process_56 fb_M_process_92 fb_M_process_134 fb_M_process_139
    refine ok_br.mpr ⟨fun _ => ok_br.mpr ⟨fun _ => ok_br.mpr ⟨fun _ => y _, fun _ => ok_bnd.mpr (ok_mono (mayGo_ok (N := N) (by omega)) (fun x r hx => ?_))⟩, fun _ => y _⟩, fun _ => ok_br.mpr ⟨fun _ => ok_ck.mpr ⟨i 90 24 rfl (by decide) (by decide), y _⟩, fun _ => ok_br.mpr ⟨fun _ => ok_ck.mpr ⟨i 114 24 rfl (by decide) (by decide), y _⟩, fun _ => ok_br.mpr ⟨fun _ => ?_, fun _ => ok_br.mpr ⟨fun _ => y _, fun _ => ok_br.mpr ⟨fun _ => y _, fun _ => y _⟩⟩⟩⟩⟩⟩
    · subst hx
      exact ok_br.mpr ⟨fun _ => y _, fun _ => y _⟩
    · rw [show (0 : Int32) = I ((0 : Nat) : Int) from rfl]
      exact ok_mono (pc_loop (N := N) (by omega) (by rw [FR.F f3 (by decide)]; exact hL) (by omega) N 0 _ (by omega) (by omega)) (fun v _ hv => by rw [hv]; exact f3)
  unfold fb_M_process_40
  rw [i 109 24 rfl (by decide) (by decide), ck_t, ck_t, ck_t]
  exact ok_br.mpr ⟨fun _ => ok_br.mpr ⟨fun _ => y56 _ _, fun _ => y56 _ _⟩, fun _ => ok_br.mpr ⟨fun _ => y56 _ _, fun _ => y56 _ _⟩⟩
end
end
section
section
variable {Fv : Int64 → Int64 → Prop} {P P2 : Int64 → Prop} {u v w w2 x y : MS} {PR PR2 N p n n2 opM bnM bxM bx2 ND fr k tp mu CN PN SN UN FN rq q m h mm AN z j : Nat} {ow kd ow2 kd2 ro rn rh cb pc ct pM pE : Nat → Nat} {T : TY} {C : CY}
theorem PSX_95 (h : PSX w T ND UN FN p) (h3 : A w 109 p ≠ 3) : ∃ f r o : Nat, A w 95 p = ((f : Nat) : Int) ∧ 1 ≤ f ∧ f ≤ 60 ∧ A w 99 (60 * p + (f - 1)) = ((r : Nat) : Int) ∧ A w 100 (60 * p + (f - 1)) = ((o : Nat) : Int) ∧ (r : Int) ≤ A w 94 p ∧ (o : Int) ≤ A w 92 p := by
  rcases h with h | ⟨fr, ro, rn, rh, cb, pc, ct, q, h1, h2, h3', h4, h5, h6, h7, -⟩ | ⟨h1, h2, h3', h4, h5, h6, x, h7, h8, -⟩
  · exact absurd h h3
  · have hf := h1.1
    have top := h1.2.2.1 (fr - 1) (by omega)
    exact ⟨fr, rn (fr - 1), ro (fr - 1), hf.2.2, hf.1, hf.2.1, top.2.1, top.1, by omega, by omega⟩
  · exact ⟨1, 0, 0, by rw [h2]; rfl, by omega, by omega, by rw [show 60 * p + (1 - 1) = 60 * p from by omega, h5]; rfl, by rw [show 60 * p + (1 - 1) = 60 * p from by omega, h6]; rfl, by omega, by omega⟩
theorem frame1_ok {a b c : Int32} (h : F w 87 ≠ 0 → REST Fv AN T ND UN FN PR w) (h44 : ∀ i, 0 ≤ A w 44 i ∧ A w 44 i < 4002) : OK (fun v _ => FR [3] [] [] [] w v) (fm_M_frame1 N w a b c) := by
  unfold fm_M_frame1 fb_M_frame1_0 fb_M_frame1_46
  refine ok_lt.mpr ?_
  rw [three]
  have y : ∀ t : Int32, OK (fun v _ => FR [3] [] [] [] w v) (some (wi w 3 0, t)) := fun t => ok_some.mpr f3
  refine ok_bnd.mpr (ok_mono (isP (N := N) (PR := PR) (a := a) (fun z => (h z).1.1)) (fun v r hv => ?_))
  obtain ⟨v1, v2⟩ := hv
  subst v1
  refine ok_br.mpr ⟨fun _ => y _, fun zr => ?_⟩
  obtain ⟨n87, p, hp, ea⟩ : F w 87 ≠ 0 ∧ ∃ p : Nat, p < PR ∧ a = I p := by
    rcases v2 with v2 | ⟨-, v2⟩
    · exact absurd v2 (of_decide_eq_false zr)
    · exact v2
  obtain ⟨d, hw, -, -⟩ := h n87
  have pr := d.1.2
  have i : ∀ k n, ln k = n → 24 ≤ n → n < 2147483648 → inb (I (p : Int)) (ln k) = true := fun k n hk h1 h2 => inb_at hk (by omega) (by omega) h2
  have tp : (I (p : Int)).toNatClampNeg = p := by rw [I_tn (by omega) (by omega), Int.toNat_natCast]
  rw [ea, i 109 24 rfl (by decide) (by decide), ck_t, show (wi w 3 0).2.2.1 = w.2.2.1 from rfl, tp, I_A (k := 109)]
  have r9 := A_r w 109 p
  rw [show (3 : Int32) = I 3 from rfl, decE r9.1 r9.2 (by omega) (by omega)]
  refine ok_br.mpr ⟨fun _ => y _, fun z3 => ok_br.mpr ⟨fun _ => y _, fun z0 => ?_⟩⟩
  obtain ⟨f, r, o, e95, e1, e2, e99, e100, -, -⟩ := PSX_95 (hw.2.2.2.2.2.2 p hp (by omega)) (of_decide_eq_false z3)
  have rb := ti_rng b
  have eb : b = I b.toInt := I_of b
  rw [eb, lit0q, decL rb.1 rb.2 (by omega) (by omega)] at z0
  have c0 := of_decide_eq_false z0
  obtain ⟨j, hj⟩ : ∃ j : Nat, b.toInt = j := ⟨b.toInt.toNat, by omega⟩
  rw [hj] at eb
  rw [eb, i 95 24 rfl (by decide) (by decide), ck_t, I_A' e95, decI (by omega) (by omega) (by omega) (by omega)]
  refine ok_br.mpr ⟨fun _ => y _, fun zj => ok_br.mpr ⟨fun _ => y _, fun _ => ok_br.mpr ⟨fun _ => ?_, fun _ => y _⟩⟩⟩
  have zj' := of_decide_eq_false zj
  rw [ck_t, lt_e, lit1q, I_sub, I_sub, show (60 : Int32) = I 60 from rfl, I_mul, I_add, show (p : Int) * 60 + ((f : Int) - 1 - (j : Int)) = ((60 * p + (f - 1 - j) : Nat) : Int) from by omega]
  have in6 : ∀ k, ln k = 1440 → inb (I ((60 * p + (f - 1 - j) : Nat) : Int)) (ln k) = true := fun k hk => inb_at hk (by omega) (by omega) (by decide)
  rw [in6 96 rfl, in6 97 rfl, ck_t, ck_t, ck_t]
  unfold fb_M_frame1_118 fb_M_frame1_141 fb_M_frame1_165 fb_M_frame1_195
  refine ok_br.mpr ⟨fun _ => y _, fun _ => ok_br.mpr ⟨fun _ => ok_br.mpr ⟨fun _ => y _, fun z97 => ?_⟩, fun _ => ?_⟩⟩
  · rw [I_tn (x := ((60 * p + (f - 1 - j) : Nat) : Int)) (by omega) (by omega), Int.toNat_natCast] at z97 ⊢
    have k97 := hw.2.2.2.2.1 (60 * p + (f - 1 - j))
    have n97 : A w 97 (60 * p + (f - 1 - j)) ≠ -1 := fun e => of_decide_eq_false z97 (by rw [I_A' e]; rfl)
    obtain ⟨c', hc'⟩ : ∃ c' : Nat, A w 97 (60 * p + (f - 1 - j)) = c' := ⟨(A w 97 (60 * p + (f - 1 - j))).toNat, by omega⟩
    rw [I_A' hc']
    refine ok_ck.mpr ⟨inb_at (k := 44) (n := 1400) rfl (by omega) (by omega) (by decide), ?_⟩
    have k44 := h44 c'
    rw [I_tn (x := (c' : Int)) (by omega) (by omega), Int.toNat_natCast, I_A (k := 44)]
    exact ok_ck.mpr ⟨inb_at (k := 8) (n := 4002) rfl (by omega) (by omega) (by decide), y _⟩
  · skip
    rw [lit0q, decE (by omega) (by omega) (by omega) (by omega)]
    refine ok_br.mpr ⟨fun z => ok_ck.mpr ⟨i 94 24 rfl (by decide) (by decide), ok_br.mpr ⟨fun _ => ok_ck.mpr ⟨i 92 24 rfl (by decide) (by decide), ok_br.mpr ⟨fun _ => ok_ck.mpr ⟨in6 99 rfl, y _⟩, fun _ => ok_ck.mpr ⟨in6 100 rfl, y _⟩⟩⟩, fun z2 => ?_⟩⟩, fun z => ?_⟩
    · rw [z] at z2; exact absurd z2 (by decide)
    · have jn : j ≠ 0 := by have := of_decide_eq_false z; omega
      rw [z, br_fq, I_add, lit1q, I_add]
      refine ok_ck.mpr ⟨inb_at (k := 99) (n := 1440) rfl (by omega) (by omega) (by decide), ok_ck.mpr ⟨inb_at (k := 100) (n := 1440) rfl (by omega) (by omega) (by decide), ?_⟩⟩
      exact ok_br.mpr ⟨fun _ => ok_ck.mpr ⟨in6 99 rfl, y _⟩, fun _ => ok_ck.mpr ⟨in6 100 rfl, y _⟩⟩
theorem sh_loop {L : Nat} (hL : L ≤ 100) : ∀ (m k : Nat) (w : MS), k ≤ L → L - k < m → F w 144 = ((L : Nat) : Int) → OK (fun v _ => FR [130] [] [129] [] w v ∧ 0 ≤ F v 130 ∧ F v 130 ≤ 100) ((gg_M_show N m).2 w (I k)) := by
  intro m
  induction m with
  | zero => intro k w _ h; omega
  | succ m ih =>
    intro k w hk hm h144
    show OK _ (fb_M_show_263 N (gg_M_show N m) w (I k))
    unfold fb_M_show_263
    rw [I_F' h144, decI (by omega) (by omega) (by omega) (by omega)]
    refine ok_br.mpr ⟨fun _ => ok_lt.mpr (ok_some.mpr ?_), fun zz => ?_⟩
    · rw [wi_e]
      exact ⟨FR.wi FR.rf (by decide), by rw [F_wi (by omega) (by omega), if_pos rfl]; omega, by rw [F_wi (by omega) (by omega), if_pos rfl]; omega⟩
    · have zz' := of_decide_eq_false zz
      refine ok_ck.mpr ⟨inb_at (k := 143) (n := 100) rfl (by omega) (by omega) (by decide), ok_ck.mpr ⟨inb_at (k := 129) (n := 100) rfl (by omega) (by omega) (by decide), ok_lt.mpr ?_⟩⟩
      rw [I_of (vp_nar .byte (w.2.2.1 143 (I (k : Int)).toNatClampNeg)), wa_e, lit1q, I_add, show (k : Int) + 1 = ((k + 1 : Nat) : Int) from by omega]
      exact ok_mono (ih (k + 1) _ (by omega) (by omega) h144) (fun v _ hv => ⟨FR.tr (FR.wa FR.rf (by decide)) hv.1, hv.2⟩)
theorem sr_loop {L : Nat} (hL : L ≤ 100) (hp : p < 24) : ∀ (m k : Nat) (w : MS), k ≤ L → L - k < m → A w 132 p = ((L : Nat) : Int) → OK (fun v _ => FR [130] [] [129] [] w v ∧ 0 ≤ F v 130 ∧ F v 130 ≤ 100) ((gg_M_show N m).1 w (I p) (I k)) := by
  intro m
  induction m with
  | zero => intro k w _ h; omega
  | succ m ih =>
    intro k w hk hm h132
    show OK _ (fb_M_show_43 N (gg_M_show N m) w (I p) (I k))
    unfold fb_M_show_43
    refine ok_ck.mpr ⟨inb_at (k := 132) (n := 24) rfl (by omega) (by omega) (by decide), ?_⟩
    rw [I_tn (x := (p : Int)) (by omega) (by omega), Int.toNat_natCast, I_A' h132, decI (by omega) (by omega) (by omega) (by omega)]
    refine ok_br.mpr ⟨fun _ => ok_ck.mpr ⟨inb_at (k := 132) (n := 24) rfl (by omega) (by omega) (by decide), ok_lt.mpr (ok_some.mpr ?_)⟩, fun zz => ?_⟩
    · rw [wi_e]
      exact ⟨FR.wi FR.rf (by decide), by rw [F_wi (by omega) (by omega), if_pos rfl]; omega, by rw [F_wi (by omega) (by omega), if_pos rfl]; omega⟩
    · have zz' := of_decide_eq_false zz
      rw [show (100 : Int32) = I 100 from rfl, I_mul, I_add]
      refine ok_ck.mpr ⟨inb_at (k := 131) (n := 2400) rfl (by omega) (by omega) (by decide), ok_ck.mpr ⟨inb_at (k := 129) (n := 100) rfl (by omega) (by omega) (by decide), ok_lt.mpr ?_⟩⟩
      rw [I_of (vp_nar .byte _), wa_e, lit1q, I_add, show (k : Int) + 1 = ((k + 1 : Nat) : Int) from by omega]
      exact ok_mono (ih (k + 1) _ (by omega) (by omega) (by rw [A_ne (by decide)]; exact h132)) (fun v _ hv => ⟨FR.tr (FR.wa FR.rf (by decide)) hv.1, hv.2⟩)
def SHR (u w : MS) : Prop := FR [3, 130, 144] [] [129, 143] [141] u w ∧ ((0 ≤ F u 130 ∧ F u 130 ≤ 100) → 0 ≤ F w 130 ∧ F w 130 ≤ 100)
set_option maxRecDepth 100000 in
theorem show_ok {a b c : Int32} (h : F w 87 ≠ 0 → REST Fv AN T ND UN FN PR w ∧ PER Fv AN T C pM pE ND CN PN SN UN FN w) (hN : 11000000 ≤ N) : OK (fun v _ => SHR w v) (fm_M_show N w a b c) := by
  unfold fm_M_show fb_M_show_0 fb_M_show_17 fb_M_show_38 fb_M_show_113
  refine ok_lt.mpr ?_
  rw [three]
  have y0 : SHR w (wi w 3 0) := ⟨FR.mo f3 (by decide) (by decide) (by decide) (by decide), fun z => by rw [FR.F f3 (by decide)]; exact z⟩
  have y : ∀ t : Int32, OK (fun v _ => SHR w v) (some (wi w 3 0, t)) := fun t => ok_some.mpr y0
  refine ok_bnd.mpr (ok_mono (isP (N := N) (PR := PR) (a := a) (fun z => (h z).1.1.1)) (fun v r hv => ?_))
  obtain ⟨v1, v2⟩ := hv
  subst v1
  refine ok_br.mpr ⟨fun _ => y _, fun zr => ok_br.mpr ⟨fun z0 => ?_, fun _ => y _⟩⟩
  obtain ⟨n87, p, hpp, ea⟩ : F w 87 ≠ 0 ∧ ∃ p : Nat, p < PR ∧ a = I p := by
    rcases v2 with v2 | ⟨-, v2⟩
    · exact absurd v2 (of_decide_eq_false zr)
    · exact v2
  obtain ⟨⟨d, hw, -, -⟩, per⟩ := h n87
  have pr := d.1.2
  have i : ∀ k n, ln k = n → 24 ≤ n → n < 2147483648 → inb (I (p : Int)) (ln k) = true := fun k n hk h1 h2 => inb_at hk (by omega) (by omega) h2
  have tp : (I (p : Int)).toNatClampNeg = p := by rw [I_tn (by omega) (by omega), Int.toNat_natCast]
  have rc := ti_rng c
  have ec : c = I c.toInt := I_of c
  rw [ec, lit0q, decI (by omega) (by omega) rc.1 rc.2] at z0
  have c0 := of_decide_eq_true z0
  obtain ⟨j, hj⟩ : ∃ j : Nat, c.toInt = j := ⟨c.toInt.toNat, by omega⟩
  rw [hj] at ec
  have jl : j < 2147483648 := by omega
  have r9 := A_r w 109 p
  rw [ea, ec, i 109 24 rfl (by decide) (by decide), ck_t, ck_t, show (wi w 3 0).2.2.1 = w.2.2.1 from rfl, tp, I_A (k := 109)]
  have k132 := hw.2.2.2.2.2.1 p
  refine ok_br.mpr ⟨fun _ => ok_br.mpr ⟨fun _ => ok_br.mpr ⟨fun _ => ?_, fun _ => y _⟩, fun _ => y _⟩, fun _ => ok_br.mpr ⟨fun _ => y _, fun z3 => ok_br.mpr ⟨fun _ => y _, fun _ => ok_br.mpr ⟨fun _ => ?_, fun _ => y _⟩⟩⟩⟩
  · obtain ⟨L, hL⟩ : ∃ L : Nat, A w 132 p = L := ⟨(A w 132 p).toNat, by omega⟩
    rw [show (0 : Int32) = I ((0 : Nat) : Int) from rfl]
    refine ok_mono (sr_loop (N := N) (L := L) (by omega) (by omega) N 0 (wi w 3 0) (by omega) (by omega) (by rw [FR.A f3 (by decide)]; exact hL)) (fun v _ hv => ⟨FR.tr (FR.mo f3 (by decide) (by decide) (by decide) (by decide)) (FR.mo hv.1 (by decide) (by decide) (by decide) (by decide)), fun _ => hv.2⟩)
  · have n3 : A w 109 p ≠ 3 := fun e => of_decide_eq_false z3 (by rw [e]; rfl)
    obtain ⟨f, r, o, e95, e1, e2, e99, e100, e94, e92⟩ := PSX_95 (hw.2.2.2.2.2.2 p hpp (by omega)) n3
    obtain ⟨n, ow, kd, o2, b2, bx, a89, x1, x2, x3, x4, x5, x6, x7, x8, x9, x10, x11⟩ := d.2.1 p hpp
    have y257 : ∀ t : Int64, GT n ow kd (PQ AN PR) t → OK (fun v _ => SHR w v) (fb_M_show_257 N (gg_M_show N N) (wi w 3 0) (I p) t) := fun t gt => by
      unfold fb_M_show_257
      have hpz : hp (wi w 3 0) p = hp w p := rfl
      refine ok_bnd.mpr (ok_mono (write_ok (N := N) (o := p) (by omega) x3 (by rw [hpz]; exact x2) (ATM_fr per.2.2.1 f3 (by decide) (by decide)) (PA_fr (PER_pa per) f3 (by decide)) PQ_s gt hN) (fun v _ hv => ?_))
      obtain ⟨v1, v2, v3⟩ := hv
      obtain ⟨L, hL⟩ : ∃ L : Nat, F v 144 = L := ⟨(F v 144).toNat, by omega⟩
      rw [show (0 : Int32) = I ((0 : Nat) : Int) from rfl]
      exact ok_mono (sh_loop (N := N) (L := L) (by omega) N 0 v (by omega) (by omega) hL) (fun x _ hx => ⟨FR.tr (FR.mo f3 (by decide) (by decide) (by decide) (by decide)) (FR.tr (FR.mo v1 (by decide) (by decide) (by decide) (by decide)) (FR.mo hx.1 (by decide) (by decide) (by decide) (by decide))), fun _ => hx.2⟩)
    rw [i 95 24 rfl (by decide) (by decide), ck_t, lt_e, I_A' e95, show (60 : Int32) = I 60 from rfl, I_mul, I_add, lit1q, I_sub, show (p : Int) * 60 + (f : Int) - 1 = ((60 * p + (f - 1) : Nat) : Int) from by omega]
    have in6 : ∀ k, ln k = 1440 → inb (I ((60 * p + (f - 1) : Nat) : Int)) (ln k) = true := fun k hk => inb_at hk (by omega) (by omega) (by decide)
    have t6 : (I ((60 * p + (f - 1) : Nat) : Int)).toNatClampNeg = 60 * p + (f - 1) := by rw [I_tn (by omega) (by omega), Int.toNat_natCast]
    rw [i 108 24 rfl (by decide) (by decide), i 94 24 rfl (by decide) (by decide), i 92 24 rfl (by decide) (by decide), in6 99 rfl, in6 100 rfl, ck_t, ck_t, ck_t, ck_t, ck_t, t6, I_A' e99, I_A' e100, I_A' x5.1, I_A' x6.1, I_A' x7.1, I_sub, I_sub]
    unfold fb_M_show_179
    rw [in6 99 rfl, in6 100 rfl, ck_t, ck_t, t6, show (wi w 3 0).2.2.1 = w.2.2.1 from rfl, show (wi w 3 0).2.2.2 = w.2.2.2 from rfl, I_A' e99, I_A' e100, show (30 : Int32) = I 30 from rfl, I_mul, I_add, show (2500 : Int32) = I 2500 from rfl, I_mul, I_add, I_add, show (46000 : Int32) = I 46000 from rfl, I_mul, I_add, I_add, decL (by omega) (by omega) (by omega) (by omega), decL (by omega) (by omega) (by omega) (by omega), decL (by omega) (by omega) (by omega) (by omega)]
    refine ok_br.mpr ⟨fun w0 => ok_br.mpr ⟨fun zj => ok_br.mpr ⟨fun _ => ?_, fun q0 => ?_⟩, fun _ => y _⟩, fun n0 => ok_br.mpr ⟨fun w1 => ok_br.mpr ⟨fun zj => ok_br.mpr ⟨fun q0 => ?_, fun _ => ok_br.mpr ⟨fun _ => ?_, fun q1 => ?_⟩⟩, fun _ => y _⟩, fun n1 => ok_br.mpr ⟨fun zj => ok_br.mpr ⟨fun q0 => ?_, fun _ => ok_br.mpr ⟨fun q1 => ?_, fun _ => ?_⟩⟩, fun _ => y _⟩⟩⟩
    · have zj' := of_decide_eq_true zj
      refine ok_ck.mpr ⟨inb_at (k := 107) (n := 720) rfl (by omega) (by omega) (by decide), ?_⟩
      rw [I_tn (by omega) (by omega), show ((p : Int) * 30 + (j : Int)).toNat = 30 * p + j from by omega]
      exact y257 _ (x10 j (by omega))
    · rw [w0] at q0; exact absurd q0 (by decide)
    · rw [n0] at q0; exact absurd q0 (by decide)
    · have zj' := of_decide_eq_true zj
      refine ok_ck.mpr ⟨inb_at (k := 93) (n := 60000) rfl (by omega) (by omega) (by decide), ?_⟩
      rw [I_tn (by omega) (by omega), show ((p : Int) * 2500 + (r : Int) + (j : Int)).toNat = 2500 * p + (r + j) from by omega]
      exact y257 _ (x9 _ (by omega))
    · exact absurd (of_decide_eq_true w1) (of_decide_eq_false q1)
    · rw [n0] at q0; exact absurd q0 (by decide)
    · exact absurd (of_decide_eq_true q1) (of_decide_eq_false n1)
    · have zj' := of_decide_eq_true zj
      refine ok_ck.mpr ⟨inb_at (k := 91) (n := 1104000) rfl (by omega) (by omega) (by decide), ?_⟩
      rw [I_tn (by omega) (by omega), show ((p : Int) * 46000 + (o : Int) + (j : Int)).toNat = 46000 * p + (o + j) from by omega]
      exact y257 _ (x8 _ (by omega))
end
end
section
section
variable {Fv : Int64 → Int64 → Prop} {P P2 : Int64 → Prop} {u v w w2 x y : MS} {PR PR2 N p n n2 opM bnM bxM bx2 ND fr k tp mu CN PN SN UN FN rq q m h mm AN z j : Nat} {ow kd ow2 kd2 ro rn rh cb pc ct pM pE : Nat → Nat} {T : TY} {C : CY}
theorem function1_ok {a b : Int32} (h : F w 86 ≠ 0 → 0 ≤ F w 52 ∧ F w 52 ≤ 1000) (h49 : ∀ i, 0 ≤ A w 49 i ∧ A w 49 i < 4002) : OK (fun v _ => FR [3] [] [] [] w v) (fm_M_function1 N w a b) := by
  unfold fm_M_function1 fb_M_function1_0 fb_M_function1_33 fb_M_function1_87
  refine ok_lt.mpr ?_
  rw [three]
  have y : ∀ t : Int32, OK (fun v _ => FR [3] [] [] [] w v) (some (wi w 3 0, t)) := fun t => ok_some.mpr f3
  refine ok_br.mpr ⟨fun _ => y _, fun z86 => ok_br.mpr ⟨fun _ => y _, fun z0 => ok_br.mpr ⟨fun _ => y _, fun z1 => ok_br.mpr ⟨fun _ => y _, fun _ => ok_br.mpr ⟨fun _ => ?_, fun _ => y _⟩⟩⟩⟩⟩
  have n86 : F w 86 ≠ 0 := fun e => of_decide_eq_false z86 (by rw [show (wi w 3 0).1 86 = w.1 86 from rfl, I_F' e]; rfl)
  obtain ⟨a1, a2⟩ := h n86
  have ra := ti_rng a
  have ea : a = I a.toInt := I_of a
  rw [ea, lit0q, decL ra.1 ra.2 (by omega) (by omega)] at z0
  rw [ea, show (wi w 3 0).1 52 = w.1 52 from rfl, I_F (k := 52), decI (by omega) (by omega) ra.1 ra.2] at z1
  have c0 := of_decide_eq_false z0
  have c1 := of_decide_eq_false z1
  obtain ⟨i, hi⟩ : ∃ i : Nat, a.toInt = i := ⟨a.toInt.toNat, by omega⟩
  rw [hi] at ea
  rw [ea, show (wi w 3 0).2.2.1 = w.2.2.1 from rfl]
  have ii : ∀ k, ln k = 1000 → inb (I (i : Int)) (ln k) = true := fun k hk => inb_at hk (by omega) (by omega) (by decide)
  refine ok_br.mpr ⟨fun _ => ok_ck.mpr ⟨ii 47 rfl, y _⟩, fun _ => ok_br.mpr ⟨fun _ => ok_ck.mpr ⟨ii 48 rfl, y _⟩, fun _ => ok_br.mpr ⟨fun _ => ok_ck.mpr ⟨ii 51 rfl, y _⟩, fun _ => ok_ck.mpr ⟨ii 49 rfl, ?_⟩⟩⟩⟩
  have d := h49 i
  rw [I_tn (x := (i : Int)) (by omega) (by omega), Int.toNat_natCast, I_A (k := 49)]
  exact ok_ck.mpr ⟨inb_at (k := 8) (n := 4002) rfl (by omega) (by omega) (by decide), y _⟩
theorem feed_ok {a b c d e : Int32} (h : 0 ≤ F w 5 ∧ F w 5 ≤ 4000) (hN : 100 ≤ N) : OK (fun v _ => FR [3, 5] [] [4] [] w v ∧ 0 ≤ F v 5 ∧ F v 5 ≤ 4000) (fm_M_feed N w a b c d e) := by
  unfold fm_M_feed fb_M_feed_0
  refine ok_lt.mpr ?_
  rw [three]
  have e5 : F (wi w 3 0) 5 = F w 5 := FR.F f3 (by decide)
  have lp : ∀ (m k : Nat) (v : MS), k ≤ 20 → 20 - k < m → FR [3, 5] [] [4] [] w v → 0 ≤ F v 5 → F v 5 + (20 - k) ≤ 4000 → OK (fun v _ => FR [3, 5] [] [4] [] w v ∧ 0 ≤ F v 5 ∧ F v 5 ≤ 4000) (gg_M_feed N m v a b c d e (I k)) := by
    intro m
    induction m with
    | zero => intro k v _ h; omega
    | succ m ih =>
      intro k v hk hm fv h0 h4
      show OK _ (fb_M_feed_23 N (gg_M_feed N m) v a b c d e (I k))
      unfold fb_M_feed_23 fb_M_feed_76
      rw [show (20 : Int32) = I 20 from rfl, decI (by omega) (by omega) (by omega) (by omega)]
      refine ok_br.mpr ⟨fun _ => ok_some.mpr ⟨fv, h0, by omega⟩, fun zz => ?_⟩
      have zz' := of_decide_eq_false zz
      obtain ⟨t, ht⟩ : ∃ t : Nat, F v 5 = t := ⟨(F v 5).toNat, by omega⟩
      have stp : ∀ x : Int32, OK (fun v _ => FR [3, 5] [] [4] [] w v ∧ 0 ≤ F v 5 ∧ F v 5 ≤ 4000) (ck (inb (v.1 5) (ln 4)) (lt (upA v 4 (upd (v.2.2.1 4) (v.1 5).toNatClampNeg x)) (fun w1 => lt (upI w1 5 ((w1.1 5) + 1)) (fun w2 => gg_M_feed N m w2 a b c d e ((I k) + 1))))) := fun x => by
        rw [I_F' ht]
        refine ok_ck.mpr ⟨inb_at (k := 4) (n := 4000) rfl (by omega) (by omega) (by decide), ok_lt.mpr (ok_lt.mpr ?_)⟩
        rw [I_tn (x := (t : Int)) (by omega) (by omega), Int.toNat_natCast, I_of x, wa_e, show (wa v 4 t x.toInt).1 5 = I t from I_F' ht, lit1q, I_add, I_add, wi_e, show (k : Int) + 1 = ((k + 1 : Nat) : Int) from by omega]
        exact ih (k + 1) _ (by omega) (by omega) (FR.wi (FR.wa fv (by decide)) (by decide)) (by rw [F_wi (by omega) (by omega), if_pos rfl]; omega) (by rw [F_wi (by omega) (by omega), if_pos rfl]; omega)
      exact ok_br.mpr ⟨fun _ => ok_br.mpr ⟨fun _ => ok_br.mpr ⟨fun _ => ok_br.mpr ⟨fun _ => stp _, fun _ => stp _⟩, fun _ => stp _⟩, fun _ => stp _⟩, fun _ => stp _⟩
  rw [I_F (k := 5), e5, show (20 : Int32) = I 20 from rfl, I_add, show (4000 : Int32) = I 4000 from rfl, decI (by omega) (by omega) (by omega) (by omega)]
  refine ok_br.mpr ⟨fun z => ?_, fun _ => ok_some.mpr ⟨FR.mo f3 (by decide) (by decide) (by decide) (by decide), by rw [e5]; exact h.1, by rw [e5]; exact h.2⟩⟩
  have := of_decide_eq_true z
  rw [show (0 : Int32) = I ((0 : Nat) : Int) from rfl]
  exact lp N 0 _ (by omega) (by omega) (FR.mo f3 (by decide) (by decide) (by decide) (by decide)) (by rw [e5]; exact h.1) (by rw [e5]; omega)
theorem back_ok {a : Int32} (h : 0 ≤ F w 5 ∧ F w 5 ≤ 4000) : OK (fun v _ => FR [3, 5] [] [] [] w v ∧ 0 ≤ F v 5 ∧ F v 5 ≤ 4000) (fm_M_back N w a) := by
  unfold fm_M_back fb_M_back_0 fb_M_back_17
  refine ok_lt.mpr ?_
  rw [three]
  have e5 : F (wi w 3 0) 5 = F w 5 := FR.F f3 (by decide)
  have bad : OK (fun v (_ : Int32) => FR [3, 5] [] [] [] w v ∧ 0 ≤ F v 5 ∧ F v 5 ≤ 4000) (some (wi w 3 0, -1)) := ok_some.mpr ⟨FR.mo f3 (by decide) (by decide) (by decide) (by decide), by rw [e5]; exact h.1, by rw [e5]; exact h.2⟩
  have ra := ti_rng a
  have ea : a = I a.toInt := I_of a
  rw [I_F (k := 5), e5, ea, lit0q, decL ra.1 ra.2 (by omega) (by omega), decI ra.1 ra.2 (by omega) (by omega), I_sub, wi_e]
  refine ok_br.mpr ⟨fun _ => bad, fun z0 => ok_br.mpr ⟨fun z1 => ok_lt.mpr (ok_some.mpr ?_), fun _ => bad⟩⟩
  have c0 := of_decide_eq_false z0
  have c1 := of_decide_eq_true z1
  refine ⟨FR.wi (FR.mo f3 (by decide) (by decide) (by decide) (by decide)) (by decide), ?_, ?_⟩
  · rw [F_wi (by omega) (by omega), if_pos rfl]; omega
  · rw [F_wi (by omega) (by omega), if_pos rfl]; omega
end
end
section
def ETY (T : TY) (Z : Nat → Nat) (h m n : Nat) : Prop := T 0 n = h ∧ T 1 n = m ∧ T 2 n = Z 2 ∧ T 3 n = Z 3 ∧ T 4 n = Z 4 ∧ T 5 n = Z 5 ∧ T 6 n = Z 6 ∧ T 7 n = Z 7
theorem ETY_nx {T : TY} {Z : Nat → Nat} {h m n h2 m2 n2 : Nat} (e : ETY T Z h m n) (f : ETY T Z h2 m2 n2) (r : tR T n2 < tR T n) : NX T n n2 h2 m2 := by
  obtain ⟨e0, e1, e2, e3, e4, e5, e6, e7⟩ := e
  obtain ⟨f0, f1, f2, f3, f4, f5, f6, f7⟩ := f
  exact ⟨f0, f1, f2.trans e2.symm, f3.trans e3.symm, f4.trans e4.symm, f5.trans e5.symm, f6.trans e6.symm, f7.trans e7.symm, r⟩
def KIN (w : MS) (T : TY) (a b : Nat → Nat) (n : Nat) : Prop := a 0 ≤ tC T n ∧ tC T n < b 0 ∧ A w 23 (tC T n) = 19 ∧ tK T (tC T n) + 1 = tK T n ∧ tL T (tC T n) = tL T n ∧ tH T (tC T n) ≤ tB T n ∧ tM T (tC T n) ≤ tD T n ∧ ∃ x : Nat, A w 25 (tC T n) = x ∧ a 0 ≤ x ∧ x ≤ b 0 ∧ tR T x < tR T n
def KOUT (T : TY) (Z : Nat → Nat) (rk n : Nat) : Prop := tC T n = Z 7 ∧ tK T n = Z 3 ∧ tL T n = Z 2 ∧ Z 5 ≤ tB T n ∧ Z 6 ≤ tD T n ∧ rk < tR T n
def GIN (w : MS) (T : TY) (C : CY) (a b : Nat → Nat) (n : Nat) : Prop := ∃ c, tG T n = c + 1 ∧ a 1 ≤ c ∧ c < b 1 ∧ tM T n = cN C c ∧ tL T n = cL C c ∧ tK T n = cK C c ∧ tC T n = cC C c ∧ tB T n = cH C c ∧ ∀ d : Nat, A w 45 c = d → a 1 ≤ d ∧ d < b 1 ∧ cT C d < tR T n
def GOUT (w : MS) (T : TY) (Z : Nat → Nat) (rk m n : Nat) : Prop := A w 23 n ≠ 23 ∧ tM T n = m ∧ T 2 n = Z 2 ∧ T 3 n = Z 3 ∧ T 4 n = Z 4 ∧ T 5 n = Z 5 ∧ T 7 n = Z 7 ∧ rk < tR T n
def NWX (w : MS) (T : TY) (C : CY) (Z : Nat → Nat) (rk m : Nat) (a b : Nat → Nat) (n : Nat) : Prop :=
  (tH T n ≤ 760 ∧ tM T n + tL T n ≤ 40 ∧ tK T n ≤ 26 ∧ tB T n ≤ tH T n ∧ tD T n ≤ tM T n ∧ 1 ≤ tR T n ∧ tR T n ≤ 16000) ∧
  (0 < tK T n → KIN w T a b n ∨ KOUT T Z rk n) ∧ (tG T n ≠ 0 → GIN w T C a b n ∨ GOUT w T Z rk m n) ∧
  (1 ≤ A w 23 n ∧ A w 23 n ≤ 31 ∧ A w 23 n ≠ 24 ∧ A w 23 n ≠ 25 ∧ 0 ≤ A w 24 n ∧ A w 24 n < 4002)
def P12 (w : MS) (T : TY) (n : Nat) : Prop := A w 23 n = 12 → (∃ b : Nat, A w 26 n = b ∧ b ≤ 6 ∧ tB T n + b ≤ tH T n ∧ NX T n (n + 1) (tH T n + 1 - b) (tM T n)) ∧ (tG T n ≠ 0 → A w 27 n = 1) ∧ (A w 30 n ≠ 0 → tK T n = 0)
def P20 (w : MS) (T : TY) (a b : Nat → Nat) (n : Nat) : Prop := A w 23 n = 20 → a 0 ≤ tC T n ∧ tC T n < b 0
def P15 (w : MS) (T : TY) (n : Nat) : Prop := A w 23 n = 15 → tG T n = 0 ∧ NX T n (n + 1) (tH T n + 1) (tM T n)
def LOW (w : MS) (a b : Nat → Nat) (E : Nat → Prop) (n : Nat) : Prop :=
  (A w 23 n = 9 ∨ A w 23 n = 10 ∨ A w 23 n = 19 ∨ A w 23 n = 28 → (a 0 : Int) ≤ A w 25 n) ∧
  (A w 23 n = 26 → (A w 25 n ≠ -2 → (a 0 : Int) ≤ A w 25 n) ∧ (A w 25 n = -2 → ¬ E n → (a 0 : Int) ≤ A w 26 n ∧ (a 0 : Int) ≤ A w 26 (A w 26 n).toNat ∧ A w 26 n < b 0)) ∧
  (A w 23 n = 27 → A w 31 n ≠ -1 → (a 0 : Int) ≤ A w 31 n ∧ (a 0 : Int) ≤ A w 26 (A w 31 n).toNat ∧ A w 31 n < b 0) ∧
  (A w 23 n = 21 ∨ A w 23 n = 31 ∨ A w 23 n = 27 → A w 25 n ≠ -1 → (a 1 : Int) ≤ A w 25 n) ∧
  (A w 23 n = 14 → (a 3 : Int) ≤ A w 25 n) ∧ (A w 23 n = 28 → A w 25 n < b 0)
def kq (w : MS) (T : TY) (n : Nat) : Nat := if A w 23 n = 20 then tK T n - 1 else tK T n
def RNK (w : MS) (T : TY) (a b : Nat → Nat) (S : Nat → Prop) (n : Nat) : Prop := (A w 28 n = -1 ∨ ∃ x : Nat, A w 28 n = x ∧ a 0 ≤ x ∧ x < b 0 ∧ kq w T x = kq w T n) ∧ (S n ∨ A w 29 n = -1 ∨ ∃ x : Nat, A w 29 n = x ∧ a 0 ≤ x ∧ x < b 0 ∧ kq w T x = kq w T n)
def NODE (w : MS) (T : TY) (C : CY) (Z : Nat → Nat) (rk m : Nat) (a b : Nat → Nat) (SN : Nat) (E S : Nat → Prop) (n : Nat) : Prop :=
  NWX w T C Z rk m a b n ∧ (A w 23 n ≠ 15 → ¬ E n → WNa w T C id id (b 0 + 1) (b 1) (b 2) SN (b 3) 0 n) ∧ (A w 23 n ≠ 12 → WNb w T C (b 0 + 1) SN 0 n) ∧ P12 w T n ∧ P15 w T n ∧ P20 w T a b n ∧ LOW w a b E n ∧ RNK w T a b S n
def CLO (w : MS) (a : Nat → Nat) (c : Nat) : Prop := (A w 42 c = -1 ∨ (a 0 : Int) ≤ A w 42 c) ∧ (a 0 : Int) ≤ A w 43 c
def FNW (w : MS) (C : CY) (a b : Nat → Nat) (u : Nat) : Prop := (∃ x h r : Nat, A w 54 u = h ∧ h ≤ 40 ∧ 0 ≤ A w 55 u ∧ A w 55 u + h ≤ b 4 ∧ x ≤ 6 ∧ CLS C w (b 1) x x 0 0 h 0 0 r (A w 53 u)) ∧ (a 1 : Int) ≤ A w 53 u
def FRG (w : MS) (T : TY) (C : CY) (Z : Nat → Nat) (rk m : Nat) (a b : Nat → Nat) (SN : Nat) (E S : Nat → Prop) : Prop :=
  (∀ n, a 0 ≤ n → n < b 0 → NODE w T C Z rk m a b SN E S n) ∧ (∀ c, a 1 ≤ c → c < b 1 → CWD w T C id id (b 0 + 1) (b 1) (b 2) SN c ∧ CLO w a c) ∧ ∀ u, a 3 ≤ u → u < b 3 → FNW w C a b u
section
variable {w w2 : MS} {T T1 : TY} {C C1 : CY} {Z Z1 a b a2 b2 : Nat → Nat} {rk rk1 m m1 SN : Nat} {E E1 S S1 : Nat → Prop}
theorem PAT_up {f g f2 g2 : Nat → Nat} {PN PN2 L m m2 : Nat} {x : Int} (h : PAT w f g PN SN L m m2 x) (hp : PN ≤ PN2) : PAT w f2 g2 PN2 SN L m m2 x := by
  obtain ⟨q, pM, pE, q1, q2, q3, q4, q5, q6, q7⟩ := h
  exact ⟨q, pM, pE, q1, q2, by omega, q4, q5, q6, fun k h1 h2 => by have := q7 k h1 h2; exact ⟨this.1, by have := this.2.1; omega, this.2.2⟩⟩
theorem PATS_up {f g f2 g2 : Nat → Nat} {PN PN2 L m m2 many : Nat} {x : Int} (h : PATS w f g PN SN L m m2 many x) (hp : PN ≤ PN2) : PATS w f2 g2 PN2 SN L m m2 many x := by
  rcases h with h | ⟨q0, q, pM, pE, q1, q2, q3, q4, q5, q6, q7, q8⟩
  · exact Or.inl h
  · exact Or.inr ⟨q0, q, pM, pE, q1, q2, q3, by omega, q5, q6, q7, fun k h1 h2 => by have := q8 k h1 h2; exact ⟨this.1, by have := this.2.1; omega, this.2.2⟩⟩
theorem NX_eq {n x h mm : Nat} (e : NX T1 n x h mm) (h1 : ∀ k, k ≤ 8 → T k n = T1 k n) (h2 : ∀ k, k ≤ 8 → T k x = T1 k x) : NX T n x h mm := by
  unfold NX tH tM tL tK tG tB tD tC tR at e ⊢
  rw [h1 2 (by decide), h1 3 (by decide), h1 4 (by decide), h1 5 (by decide), h1 6 (by decide), h1 7 (by decide), h1 8 (by decide), h2 0 (by decide), h2 1 (by decide), h2 2 (by decide), h2 3 (by decide), h2 4 (by decide), h2 5 (by decide), h2 6 (by decide), h2 7 (by decide), h2 8 (by decide)]
  exact e
theorem CLS_eq {CN CN2 many hg hb mm l k cc r c : Nat} (e : CLS C1 w CN many hg hb mm l k cc r ((c : Nat) : Int)) (hC : ∀ k, C k c = C1 k c) (hn : CN ≤ CN2) : CLS C w CN2 many hg hb mm l k cc r ((c : Nat) : Int) := by
  obtain ⟨c2, e1, e2, e3, e4⟩ := e
  obtain rfl : c = c2 := by omega
  refine ⟨c, rfl, by omega, e3, ?_⟩
  unfold cH cB cM cL cK cC cR at e4 ⊢
  rw [hC, hC, hC, hC, hC, hC, hC]
  exact e4
theorem WNa_tr {n : Nat} (h : WNa w T1 C1 id id (b 0 + 1) (b 1) (b 2) SN (b 3) 0 n) (h1 : a 0 ≤ n) (h2 : n < b 0) (lo : LOW w a b E n) (hE : ¬ E n) (h20 : A w 23 n = 20 → a 0 ≤ tC T1 n ∧ tC T1 n < b 0) (h0 : b 0 ≤ b2 0) (h0' : b 1 ≤ b2 1) (h0'' : b 2 ≤ b2 2) (h0''' : b 3 ≤ b2 3) (eT : ∀ k n, k ≤ 8 → a 0 ≤ n → n ≤ b 0 → T k n = T1 k n) (eC : ∀ k c, a 1 ≤ c → c < b 1 → C k c = C1 k c) : WNa w T C id id (b2 0 + 1) (b2 1) (b2 2) SN (b2 3) 0 n := by
  have nx : ∀ x h mm, a 0 ≤ x → x ≤ b 0 → NX T1 n x h mm → NX T n x h mm := fun x h mm g1 g2 e => NX_eq e (fun k hk => eT k n hk h1 (by omega)) (fun k hk => eT k x hk g1 g2)
  have e0 : tH T n = tH T1 n := eT 0 n (by decide) h1 (by omega)
  have e1 : tM T n = tM T1 n := eT 1 n (by decide) h1 (by omega)
  have e2 : tL T n = tL T1 n := eT 2 n (by decide) h1 (by omega)
  have e3 : tK T n = tK T1 n := eT 3 n (by decide) h1 (by omega)
  have e4 : tG T n = tG T1 n := eT 4 n (by decide) h1 (by omega)
  have e5 : tB T n = tB T1 n := eT 5 n (by decide) h1 (by omega)
  have e6 : tD T n = tD T1 n := eT 6 n (by decide) h1 (by omega)
  have e7 : tC T n = tC T1 n := eT 7 n (by decide) h1 (by omega)
  have e8 : tR T n = tR T1 n := eT 8 n (by decide) h1 (by omega)
  have f0 : tH T (n + 1) = tH T1 (n + 1) := eT 0 _ (by decide) (by omega) (by omega)
  have f1 : tM T (n + 1) = tM T1 (n + 1) := eT 1 _ (by decide) (by omega) (by omega)
  have f2 : tL T (n + 1) = tL T1 (n + 1) := eT 2 _ (by decide) (by omega) (by omega)
  have f3 : tK T (n + 1) = tK T1 (n + 1) := eT 3 _ (by decide) (by omega) (by omega)
  have f4 : tG T (n + 1) = tG T1 (n + 1) := eT 4 _ (by decide) (by omega) (by omega)
  have f5 : tB T (n + 1) = tB T1 (n + 1) := eT 5 _ (by decide) (by omega) (by omega)
  have f6 : tD T (n + 1) = tD T1 (n + 1) := eT 6 _ (by decide) (by omega) (by omega)
  have f7 : tC T (n + 1) = tC T1 (n + 1) := eT 7 _ (by decide) (by omega) (by omega)
  have f8 : tR T (n + 1) = tR T1 (n + 1) := eT 8 _ (by decide) (by omega) (by omega)
  obtain ⟨l1, l2, l3, l4, -⟩ := lo
  obtain ⟨k11, k13, k14, k15, k16, k17, k18, k19, k20, k21, k31, k27, k28, k29, k30, k26⟩ := h
  unfold WNa
  rw [e0, e1, e2, e3, e4, e5, e6, e7, e8, f0, f1, f2, f3, f4, f5, f6, f7, f8]
  have cls : ∀ {many hg hb mm l k cc r : Nat}, (A w 25 n ≠ -1 → (a 1 : Int) ≤ A w 25 n) → CLS C1 w (b 1) many hg hb mm l k cc r (A w 25 n) → CLS C w (b2 1) many hg hb mm l k cc r (A w 25 n) := fun {many hg hb mm l k cc r} hl hc => by
    obtain ⟨c, c1, c2, c3⟩ := id hc
    rw [c1] at hc hl ⊢
    exact CLS_eq hc (fun k => eC k c (by have := hl (by omega); omega) c2) h0'
  refine ⟨fun z => ?_, fun z => ?_, fun z => ?_, fun z => ?_, fun z => ?_, fun z => ?_, fun z => ?_, fun z => ?_, fun z => ?_, fun z => ?_, fun z => ?_, fun z => ?_, fun z => ?_, fun z => ?_, fun z => ?_, fun z => ?_⟩
  · exact ⟨(k11 z).1, (k11 z).2.1, nx _ _ _ (by omega) (by omega) (k11 z).2.2⟩
  · obtain ⟨z1, ⟨x, z2, z3, z4, z5⟩, z6⟩ := k13 z
    exact ⟨z1, ⟨x, z2, z3, z4, nx _ _ _ (by omega) (by omega) z5⟩, z6⟩
  · obtain ⟨z1, ⟨u, z2, z3, z4⟩, z5⟩ := k14 z
    exact ⟨z1, ⟨u, z2, by omega, z4⟩, nx _ _ _ (by omega) (by omega) z5⟩
  · have := (k15 z).2.2.1
    have := (k15 z).2.1
    omega
  · obtain ⟨z1, z2, m2, z3, z4⟩ := k16 z
    exact ⟨z1, z2, m2, PAT_up z3 h0'', nx _ _ _ (by omega) (by omega) z4⟩
  · exact ⟨(k17 z).1, (k17 z).2.1, nx _ _ _ (by omega) (by omega) (k17 z).2.2⟩
  · obtain ⟨z1, x, z2, z3, z4, z5⟩ := k18 z
    exact ⟨z1, x, z2, z3, z4, nx _ _ _ (by omega) (by omega) z5⟩
  · obtain ⟨z1, z2, z3, z4, z5, z6, z7, z8, z9, z10, x, z11, z12, z13⟩ := k19 z
    have := l1 (Or.inr (Or.inr (Or.inl z)))
    exact ⟨z1, z2, z3, z4, z5, z6, z7, z8, z9, z10, x, z11, by omega, nx _ _ _ (by omega) (by omega) z13⟩
  · obtain ⟨z1, z2, z3, z4, z5, z6, z7, z8, z9, z10, z11⟩ := k20 z
    exact ⟨z1, z2, z3, z4, z5, z6, z7, z8, z9, fun y => by rw [z10 y]; exact (eT 7 _ (by decide) (h20 z).1 (Nat.le_of_lt (h20 z).2)).symm, z11⟩
  · obtain ⟨z1, z2, z3, r, z4, z5⟩ := k21 z
    exact ⟨z1, z2, z3, r, z4, cls (l4 (Or.inl z)) z5⟩
  · obtain ⟨z1, z3, r, z4, z5⟩ := k31 z
    exact ⟨z1, z3, r, z4, cls (l4 (Or.inr (Or.inl z))) z5⟩
  · obtain ⟨z1, z2, z3, z4⟩ := k27 z
    refine ⟨z1, z2, ?_, ?_⟩
    · rcases z3 with z3 | ⟨r, z5, z6⟩
      · exact Or.inl z3
      · exact Or.inr ⟨r, z5, cls (l4 (Or.inr (Or.inr z))) z6⟩
    · rcases z4 with z4 | ⟨f, z5, z6, x, z7, z8, z9⟩
      · exact Or.inl z4
      · have := l3 z (by omega)
        rw [z5, Int.toNat_natCast, z7] at this
        exact Or.inr ⟨f, z5, by omega, x, z7, by omega, nx _ _ _ (by omega) (by omega) z9⟩
  · obtain ⟨z1, z2, c, z3, z4, z5, x, z6, z7, z8, z9, z10⟩ := k28 z
    have := l1 (Or.inr (Or.inr (Or.inr z)))
    exact ⟨z1, z2, c, z3, z4, z5, x, z6, by omega, z8, z9, nx _ _ _ (by omega) (by omega) z10⟩
  · exact k29 z
  · exact ⟨(k30 z).1, nx _ _ _ (by omega) (by omega) (k30 z).2⟩
  · obtain ⟨z1, z2⟩ := k26 z
    refine ⟨z1, ?_⟩
    rcases z2 with ⟨x, z2, z3, z4⟩ | ⟨z2, r, z3, z4, x, z5, z6, z7⟩
    · have := (l2 z).1 (by omega)
      exact Or.inl ⟨x, z2, by omega, nx _ _ _ (by omega) (by omega) z4⟩
    · have := (l2 z).2 z2 hE
      rw [z3, Int.toNat_natCast, z5] at this
      exact Or.inr ⟨z2, r, z3, by omega, x, z5, by omega, nx _ _ _ (by omega) (by omega) z7⟩
theorem WNb_tr {n : Nat} (h : WNb w T1 C1 (b 0 + 1) SN 0 n) (h1 : a 0 ≤ n) (h2 : n < b 0) (lo : LOW w a b E n) (h12 : A w 23 n ≠ 12) (h23 : A w 23 n = 23 → cH C (tG T1 n - 1) = cH C1 (tG T1 n - 1)) (h0 : b 0 ≤ b2 0) (eT : ∀ k n, k ≤ 8 → a 0 ≤ n → n ≤ b 0 → T k n = T1 k n) : WNb w T C (b2 0 + 1) SN 0 n := by
  have nx : ∀ x h mm, a 0 ≤ x → x ≤ b 0 → NX T1 n x h mm → NX T n x h mm := fun x h mm g1 g2 e => NX_eq e (fun k hk => eT k n hk h1 (by omega)) (fun k hk => eT k x hk g1 g2)
  have e0 : tH T n = tH T1 n := eT 0 n (by decide) h1 (by omega)
  have e1 : tM T n = tM T1 n := eT 1 n (by decide) h1 (by omega)
  have e2 : tL T n = tL T1 n := eT 2 n (by decide) h1 (by omega)
  have e3 : tK T n = tK T1 n := eT 3 n (by decide) h1 (by omega)
  have e4 : tG T n = tG T1 n := eT 4 n (by decide) h1 (by omega)
  have e5 : tB T n = tB T1 n := eT 5 n (by decide) h1 (by omega)
  obtain ⟨l1, -⟩ := lo
  obtain ⟨k1, k2, k3, k4, k5, k6, k7, k9, k12, k22, k23⟩ := h
  unfold WNb
  rw [e0, e1, e2, e3, e4, e5]
  refine ⟨fun z => ?_, fun z => ?_, fun z => ?_, fun z => ?_, fun z => ?_, fun z => ?_, fun z => ?_, fun z => ?_, fun z => absurd z h12, fun z => ?_, fun z => ?_⟩
  · exact ⟨(k1 z).1, nx _ _ _ (by omega) (by omega) (k1 z).2⟩
  · exact ⟨(k2 z).1, (k2 z).2.1, nx _ _ _ (by omega) (by omega) (k2 z).2.2⟩
  · exact ⟨(k3 z).1, nx _ _ _ (by omega) (by omega) (k3 z).2⟩
  · obtain ⟨x, z1, z2, z3, z4⟩ := k4 z
    exact ⟨x, z1, z2, z3, nx _ _ _ (by omega) (by omega) z4⟩
  · obtain ⟨x, y, z1, z2, z3, z4, z5, z6⟩ := k5 z
    exact ⟨x, y, z1, z2, z3, z4, z5, nx _ _ _ (by omega) (by omega) z6⟩
  · exact ⟨(k6 z).1, nx _ _ _ (by omega) (by omega) (k6 z).2.1, (k6 z).2.2⟩
  · exact ⟨(k7 z).1, nx _ _ _ (by omega) (by omega) (k7 z).2⟩
  · obtain ⟨z1, z2, x, z3, z4, z5⟩ := k9 z
    have := l1 (by rcases z with z | z; exact Or.inl z; exact Or.inr (Or.inl z))
    exact ⟨z1, nx _ _ _ (by omega) (by omega) z2, x, z3, by omega, nx _ _ _ (by omega) (by omega) z5⟩
  · exact ⟨(k22 z).1, (k22 z).2.1, nx _ _ _ (by omega) (by omega) (k22 z).2.2⟩
  · exact ⟨(k23 z).1, by rw [h23 z]; exact (k23 z).2⟩
theorem FRG_tr (hf : FRG w T1 C1 Z1 rk1 m1 a b SN E1 S1) (ha : ∀ i, a2 i ≤ a i) (hb : ∀ i, b i ≤ b2 i) (eT : ∀ k n, k ≤ 8 → a 0 ≤ n → n ≤ b 0 → T k n = T1 k n) (eC : ∀ k c, a 1 ≤ c → c < b 1 → C k c = C1 k c) (hK : ∀ n, a 0 ≤ n → n < b 0 → 0 < tK T1 n → KOUT T1 Z1 rk1 n → KIN w T a2 b2 n ∨ KOUT T Z rk n) (hG : ∀ n, a 0 ≤ n → n < b 0 → tG T1 n ≠ 0 → GOUT w T1 Z1 rk1 m1 n → GIN w T C a2 b2 n ∨ GOUT w T Z rk m n) (hE : ∀ n, E1 n → E n) (hS : ∀ n, S1 n → S n) : (∀ n, a 0 ≤ n → n < b 0 → NODE w T C Z rk m a2 b2 SN E S n) ∧ (∀ c, a 1 ≤ c → c < b 1 → CWD w T C id id (b2 0 + 1) (b2 1) (b2 2) SN c ∧ CLO w a2 c) ∧ ∀ u, a 3 ≤ u → u < b 3 → FNW w C a2 b2 u := by
  have ha0 := ha 0
  have ha1 := ha 1
  have ha3 := ha 3
  have hb0 := hb 0
  have hb1 := hb 1
  have hb2 := hb 2
  have hb3 := hb 3
  have hb4 := hb 4
  refine ⟨fun n h1 h2 => ?_, fun c h1 h2 => ?_, fun u h1 h2 => ?_⟩
  · obtain ⟨⟨n1, n2, n3, n4⟩, na, nb, n12, n15, n20, lo, rn⟩ := hf.1 n h1 h2
    have nx : ∀ x h mm, a 0 ≤ x → x ≤ b 0 → NX T1 n x h mm → NX T n x h mm := fun x h mm g1 g2 e => NX_eq e (fun k hk => eT k n hk h1 (by omega)) (fun k hk => eT k x hk g1 g2)
    have e0 : tH T n = tH T1 n := eT 0 n (by decide) h1 (by omega)
    have e1 : tM T n = tM T1 n := eT 1 n (by decide) h1 (by omega)
    have e2 : tL T n = tL T1 n := eT 2 n (by decide) h1 (by omega)
    have e3 : tK T n = tK T1 n := eT 3 n (by decide) h1 (by omega)
    have e4 : tG T n = tG T1 n := eT 4 n (by decide) h1 (by omega)
    have e5 : tB T n = tB T1 n := eT 5 n (by decide) h1 (by omega)
    have e6 : tD T n = tD T1 n := eT 6 n (by decide) h1 (by omega)
    have e7 : tC T n = tC T1 n := eT 7 n (by decide) h1 (by omega)
    have e8 : tR T n = tR T1 n := eT 8 n (by decide) h1 (by omega)
    have h23 : A w 23 n = 23 → cH C (tG T1 n - 1) = cH C1 (tG T1 n - 1) := fun z => by
      have g := ((nb (by omega)).2.2.2.2.2.2.2.2.2.2 z).1
      rcases n3 g with ⟨c, g1, g2, g3, -⟩ | g3
      · rw [g1]; exact eC 0 c g2 g3
      · exact absurd z g3.1
    refine ⟨⟨by rw [e0, e1, e2, e3, e5, e6, e8]; exact n1, fun z => ?_, fun z => ?_, n4⟩, fun g1 g2 => WNa_tr (na g1 (fun y => g2 (hE n y))) h1 h2 lo (fun y => g2 (hE n y)) n20 hb0 hb1 hb2 hb3 eT eC, fun g1 => WNb_tr (nb g1) h1 h2 lo g1 h23 hb0 eT, fun z => ?_, fun z => ?_, fun z => ?_, ?_, ?_⟩
    · rw [e3] at z
      rcases n2 z with ⟨c1, c2, c3, c4, c5, c6, c7, x, c8, c9, c10, c11⟩ | y
      · refine Or.inl ⟨by rw [e7]; omega, by rw [e7]; omega, by rw [e7]; exact c3, ?_, ?_, ?_, ?_, x, by rw [e7]; exact c8, by omega, by omega, ?_⟩
        · rw [e7, e3]; exact (congrArg (· + 1) (eT 3 _ (by decide) c1 (by omega))).trans c4
        · rw [e7, e2]; exact (eT 2 _ (by decide) c1 (by omega)).trans c5
        · rw [e7, e5]; exact Nat.le_trans (Nat.le_of_eq (eT 0 _ (by decide) c1 (by omega))) c6
        · rw [e7, e6]; exact Nat.le_trans (Nat.le_of_eq (eT 1 _ (by decide) c1 (by omega))) c7
        · rw [e8]; exact Nat.lt_of_le_of_lt (Nat.le_of_eq (eT 8 _ (by decide) c9 c10)) c11
      · exact hK n h1 h2 z y
    · rw [e4] at z
      rcases n3 z with ⟨c, c1, c2, c3, c4, c5, c6, c7, c8, c9⟩ | y
      · refine Or.inl ⟨c, by rw [e4]; exact c1, by omega, by omega, ?_, ?_, ?_, ?_, ?_, fun d hd => ?_⟩
        · rw [e1]; exact c4.trans (eC 3 c c2 c3).symm
        · rw [e2]; exact c5.trans (eC 4 c c2 c3).symm
        · rw [e3]; exact c6.trans (eC 5 c c2 c3).symm
        · rw [e7]; exact c7.trans (eC 6 c c2 c3).symm
        · rw [e5]; exact c8.trans (eC 0 c c2 c3).symm
        · obtain ⟨d1, d2, d3⟩ := c9 d hd
          refine ⟨by omega, by omega, ?_⟩
          rw [e8]
          exact Nat.lt_of_le_of_lt (Nat.le_of_eq (eC 8 d d1 d2)) d3
      · exact hG n h1 h2 z y
    · obtain ⟨⟨x, z1, z2, z3, z4⟩, z5, z6⟩ := n12 z
      rw [e3, e4, e5, e0, e1]
      exact ⟨⟨x, z1, z2, z3, nx _ _ _ (by omega) (by omega) z4⟩, z5, z6⟩
    · rw [e4, e0, e1]
      exact ⟨(n15 z).1, nx _ _ _ (by omega) (by omega) (n15 z).2⟩
    · have := n20 z
      rw [e7]
      omega
    · obtain ⟨l1, l2, l3, l4, l5, l6⟩ := lo
      exact ⟨fun z => by have := l1 z; omega, fun z => ⟨fun y => by have := (l2 z).1 y; omega, fun y y2 => by have := (l2 z).2 y (fun q => y2 (hE n q)); omega⟩, fun z y => by have := l3 z y; omega, fun z y => by have := l4 z y; omega, fun z => by have := l5 z; omega, fun z => by have := l6 z; omega⟩
    · refine ⟨rn.1.imp id fun ⟨x, x1, x2, x3, x4⟩ => ⟨x, x1, by omega, by omega, ?_⟩, rn.2.imp (hS n) (fun o => o.imp id fun ⟨x, x1, x2, x3, x4⟩ => ⟨x, x1, by omega, by omega, ?_⟩)⟩
      · unfold kq at x4 ⊢; rw [e3, show tK T x = tK T1 x from eT 3 x (by decide) x2 (by omega)]; exact x4
      · unfold kq at x4 ⊢; rw [e3, show tK T x = tK T1 x from eT 3 x (by decide) x2 (by omega)]; exact x4
  · obtain ⟨⟨⟨many, d1, d2, d3⟩, d4, d5, d6, d7⟩, o1, o2⟩ := hf.2.1 c h1 h2
    have e0 : cH C c = cH C1 c := eC 0 c h1 h2
    have e1 : cB C c = cB C1 c := eC 1 c h1 h2
    have e2 : cM C c = cM C1 c := eC 2 c h1 h2
    have e3 : cN C c = cN C1 c := eC 3 c h1 h2
    have e4 : cL C c = cL C1 c := eC 4 c h1 h2
    have e5 : cK C c = cK C1 c := eC 5 c h1 h2
    have e6 : cC C c = cC C1 c := eC 6 c h1 h2
    have e7 : cR C c = cR C1 c := eC 7 c h1 h2
    have e8 : cT C c = cT C1 c := eC 8 c h1 h2
    refine ⟨?_, o1.imp id (fun y => by omega), by omega⟩
    unfold CWD
    rw [e0, e1, e2, e3, e4, e5, e6, e7, e8]
    refine ⟨⟨many, d1, d2, PATS_up d3 hb2⟩, d4, ?_, ?_, ?_⟩
    · rcases d5 with d5 | ⟨g, g1, g2, g3, g4, g5⟩
      · exact Or.inl d5
      · have : (a 0 : Int) ≤ A w 42 c := by rcases o1 with o1 | o1 <;> omega
        have q := fun k hk => eT k g hk (by omega) (by omega)
        refine Or.inr ⟨g, g1, by omega, ?_, ?_, ?_⟩
        · exact (q 0 (by decide)).trans g3
        · exact (q 4 (by decide)).trans g4
        · exact Nat.le_trans (Nat.le_of_eq (q 8 (by decide))) g5
    · obtain ⟨g, g1, g2, g3, g4, g5, g6, g7, g8, g9⟩ := d6
      have q := fun k hk => eT k g hk (by omega) (by omega)
      exact ⟨g, g1, by omega, (q 0 (by decide)).trans g3, (q 1 (by decide)).trans g4, (q 2 (by decide)).trans g5, (q 3 (by decide)).trans g6, (q 4 (by decide)).trans g7, (q 7 (by decide)).trans g8, Nat.le_trans (Nat.le_of_eq (q 8 (by decide))) g9⟩
    · rcases d7 with d7 | ⟨d, g1, g2, g3, g4, g5, g6, g7, g8, g9, g10, g11, g12⟩
      · exact Or.inl d7
      · have q := fun k => eC k d (by omega) g3
        exact Or.inr ⟨d, g1, g2, by omega, g4, (q 0).trans g5, (q 1).trans g6, (q 2).trans g7, (q 4).trans g8, (q 5).trans g9, (q 6).trans g10, (q 7).trans g11, Nat.le_trans (Nat.le_of_eq (q 8)) g12⟩
  · obtain ⟨⟨x, h, r, f1, f2, f3, f4, f5, f6⟩, f7⟩ := hf.2.2 u h1 h2
    refine ⟨⟨x, h, r, f1, f2, f3, by omega, f5, ?_⟩, by omega⟩
    obtain ⟨c, c1, c2, c3⟩ := id f6
    rw [c1] at f6 f7 ⊢
    exact CLS_eq f6 (fun k => eC k c (by omega) c2) hb1
def AG (w w2 : MS) (a b : Nat → Nat) : Prop := F w2 14 = F w 14 ∧ (∀ r i, r ∈ [23, 24, 25, 26, 27, 31] → a 0 ≤ i → i < b 0 → A w2 r i = A w r i) ∧ (∀ r i, r ∈ [40, 41, 42, 43, 45] → a 1 ≤ i → i < b 1 → A w2 r i = A w r i) ∧ (∀ r i, r ∈ [33, 35, 36, 37, 38] → i < b 2 → A w2 r i = A w r i) ∧ (∀ r i, r ∈ [53, 54, 55] → a 3 ≤ i → i < b 3 → A w2 r i = A w r i) ∧ ∀ i, i < b 4 → A w2 57 i = A w 57 i
theorem PW_ag {pM pE : Nat → Nat} {PN L q : Nat} (h : PW w pM pE PN SN L q) (e : ∀ r i, r ∈ [33, 35, 36, 37, 38] → i < PN → A w2 r i = A w r i) : PW w2 pM pE PN SN L q := by
  obtain ⟨h1, h2, h3, h4, h5, h6, h7, h8, h9, h10⟩ := h
  have q33 := e 33 q (by decide) (by omega)
  have q35 := e 35 q (by decide) (by omega)
  have q36 := e 36 q (by decide) (by omega)
  have q38 := e 38 q (by decide) (by omega)
  have chn : ∀ s mm x, x ≤ PN → CHN w pE s mm x → CHN w2 pE s mm x := fun s mm x hx ⟨c1, c2, c3⟩ => ⟨c1, c2, fun k hk => by rw [e 37 _ (by decide) (by have := c2 k (by omega); omega)]; exact c3 k hk⟩
  unfold PW
  rw [q33, q35, q36, q38]
  refine ⟨h1, h2, h3, h4, h5, h6, h7, h8, fun z => ?_, fun z => ?_⟩
  · obtain ⟨z1, mm, z2, z3, z4, z5⟩ := h9 z
    refine ⟨z1, mm, z2, z3, chn _ _ _ h2 z4, ?_⟩
    rcases z5 with z5 | ⟨z5, z6, z7⟩
    · exact Or.inl z5
    · exact Or.inr ⟨z5, z6, by rw [e 37 _ (by decide) (by have := z4.2.1 (mm - 1) (by omega); omega)]; exact z7⟩
  · obtain ⟨z1, mm, z2, z3, z4, z5, z6⟩ := h10 z
    exact ⟨z1, mm, z2, z3, z4, chn _ _ _ h2 z5, z6⟩
theorem PAT_ag {f g : Nat → Nat} {PN L m m2 : Nat} {x : Int} (h : PAT w f g PN SN L m m2 x) (e : ∀ r i, r ∈ [33, 35, 36, 37, 38] → i < PN → A w2 r i = A w r i) : PAT w2 f g PN SN L m m2 x := by
  obtain ⟨q, pM, pE, q1, q2, q3, q4, q5, q6, q7⟩ := h
  exact ⟨q, pM, pE, q1, q2, q3, q4, q5, q6, fun k h1 h2 => PW_ag (q7 k h1 h2) e⟩
theorem PATS_ag {f g : Nat → Nat} {PN L m m2 many : Nat} {x : Int} (h : PATS w f g PN SN L m m2 many x) (e : ∀ r i, r ∈ [33, 35, 36, 37, 38] → i < PN → A w2 r i = A w r i) : PATS w2 f g PN SN L m m2 many x := by
  rcases h with h | ⟨q0, q, pM, pE, q1, q2, q3, q4, q5, q6, q7, q8⟩
  · exact Or.inl h
  · exact Or.inr ⟨q0, q, pM, pE, q1, ⟨q2.1, q2.2.1, fun k hk => by rw [e 37 _ (by decide) (by have := q2.2.1 k (by omega); omega)]; exact q2.2.2 k hk⟩, q3, q4, q5, q6, q7, fun k h1 h2 => PW_ag (q8 k h1 h2) e⟩
theorem FRG_st (hf : FRG w T C Z rk m a b SN E S) (ag : AG w w2 a b) (h30 : ∀ n, a 0 ≤ n → n < b 0 → A w2 30 n ≠ 0 → A w 30 n ≠ 0 ∨ tK T n = 0) (hrn : ∀ n, a 0 ≤ n → n < b 0 → RNK w2 T a b S n) : FRG w2 T C Z rk m a b SN E S := by
  obtain ⟨g14, gn, gc, gp, gu, gh⟩ := ag
  have cls : ∀ {many hg hb mm l k cc r c : Nat}, a 1 ≤ c → CLS C w (b 1) many hg hb mm l k cc r ((c : Nat) : Int) → CLS C w2 (b 1) many hg hb mm l k cc r ((c : Nat) : Int) := fun {many hg hb mm l k cc r c} hl hc => by
    obtain ⟨c2, c1, c3, c4⟩ := hc
    obtain rfl : c = c2 := by omega
    exact ⟨c, c1, c3, by rw [gc 41 c (by decide) hl c3]; exact c4⟩
  refine ⟨fun n h1 h2 => ?_, fun c h1 h2 => ?_, fun u h1 h2 => ?_⟩
  · obtain ⟨⟨n1, n2, n3, n4⟩, na, nb, n12, n15, n20, lo, -⟩ := hf.1 n h1 h2
    have q23 := gn 23 n (by decide) h1 h2
    have q24 := gn 24 n (by decide) h1 h2
    have q25 := gn 25 n (by decide) h1 h2
    have q26 := gn 26 n (by decide) h1 h2
    have q27 := gn 27 n (by decide) h1 h2
    have q31 := gn 31 n (by decide) h1 h2
    have q30 : A w 30 n ≠ 0 ∨ tK T n = 0 ∨ A w2 30 n = 0 := by
      by_cases z : A w2 30 n = 0
      · exact Or.inr (Or.inr z)
      · exact (h30 n h1 h2 z).imp id Or.inl
    obtain ⟨l1, l2, l3, l4, l5, l6⟩ := lo
    refine ⟨⟨n1, fun z => ?_, fun z => ?_, by rw [q23, q24]; exact n4⟩, fun g1 g2 => ?_, fun g1 => ?_, fun z => ?_, fun z => ?_, fun z => ?_, ?_, hrn n h1 h2⟩
    · refine (n2 z).imp (fun ⟨c1, c2, c3, c4, c5, c6, c7, x, c8, c9⟩ => ⟨c1, c2, ?_, c4, c5, c6, c7, x, ?_, c9⟩) id
      · rw [gn 23 _ (by decide) c1 c2]; exact c3
      · rw [gn 25 _ (by decide) c1 c2]; exact c8
    · refine (n3 z).imp (fun ⟨c, c1, c2, c3, c4, c5, c6, c7, c8, c9⟩ => ⟨c, c1, c2, c3, c4, c5, c6, c7, c8, fun d hd => c9 d ?_⟩) (fun y => ⟨by rw [q23]; exact y.1, y.2⟩)
      rw [← gc 45 c (by decide) c2 c3]; exact hd
    · obtain ⟨k11, k13, k14, k15, k16, k17, k18, k19, k20, k21, k31, k27, k28, k29, k30, k26⟩ := na (by rw [← q23]; exact g1) g2
      unfold WNa
      rw [q23, q25, q26, q27, q31]
      refine ⟨k11, fun z => ⟨(k13 z).1, (k13 z).2.1, fun y => ?_⟩, fun z => ?_, k15, fun z => ?_, k17, k18, k19, k20, fun z => ?_, fun z => ?_, fun z => ?_, fun z => ?_, k29, k30, fun z => ?_⟩
      · rcases q30 with q | q | q
        · exact (k13 z).2.2 q
        · exact q
        · exact absurd q y
      · obtain ⟨z1, ⟨u, z2, z3, z4⟩, z5⟩ := k14 z
        have := l5 z
        obtain ⟨⟨x, h, r, f1, f2, f3, f4, f5, f6⟩, f7⟩ := hf.2.2 u (by omega) z3
        refine ⟨z1, ⟨u, z2, z3, fun i hi => ?_⟩, z5⟩
        rw [gu 54 u (by decide) (by omega) z3] at hi
        rw [gu 55 u (by decide) (by omega) z3, gh _ (by omega)]
        exact z4 i hi
      · obtain ⟨z1, z2, m2, z3, z4⟩ := k16 z
        exact ⟨z1, z2, m2, PAT_ag z3 gp, z4⟩
      · obtain ⟨z1, z2, z3, r, z4, z5⟩ := k21 z
        obtain ⟨c, c1, c2, c3⟩ := id z5
        have := l4 (Or.inl z) (by omega)
        rw [c1] at z5 ⊢
        exact ⟨z1, z2, z3, r, z4, cls (by omega) z5⟩
      · obtain ⟨z1, z3, r, z4, z5⟩ := k31 z
        obtain ⟨c, c1, c2, c3⟩ := id z5
        have := l4 (Or.inr (Or.inl z)) (by omega)
        rw [c1] at z5 ⊢
        exact ⟨z1, z3, r, z4, cls (by omega) z5⟩
      · obtain ⟨z1, z2, z3, z4⟩ := k27 z
        refine ⟨z1, z2, ?_, ?_⟩
        · rcases z3 with z3 | ⟨r, z5, z6⟩
          · exact Or.inl z3
          · obtain ⟨c, c1, c2, c3⟩ := id z6
            have := l4 (Or.inr (Or.inr z)) (by omega)
            rw [c1] at z6 ⊢
            exact Or.inr ⟨r, z5, cls (by omega) z6⟩
        · rcases z4 with z4 | ⟨f, z5, z6, x, z7, z8, z9⟩
          · exact Or.inl z4
          · have := l3 z (by omega)
            exact Or.inr ⟨f, z5, z6, x, by rw [gn 26 f (by decide) (by omega) (by omega)]; exact z7, z8, z9⟩
      · obtain ⟨z1, z2, c, z3, z4, z5, x, z6, z7, z8, z9, z10⟩ := k28 z
        have := l1 (Or.inr (Or.inr (Or.inr z)))
        have := l6 z
        exact ⟨z1, z2, c, z3, z4, z5, x, z6, z7, by rw [gn 23 x (by decide) (by omega) (by omega)]; exact z8, by rw [gn 31 x (by decide) (by omega) (by omega)]; exact z9, z10⟩
      · obtain ⟨z1, z2⟩ := k26 z
        refine ⟨z1, ?_⟩
        rcases z2 with z2 | ⟨z2, r, z3, z4, x, z5, z6, z7⟩
        · exact Or.inl z2
        · have := (l2 z).2 z2 g2
          exact Or.inr ⟨z2, r, z3, z4, x, by rw [gn 26 r (by decide) (by omega) (by omega)]; exact z5, z6, z7⟩
    · have := nb (by rw [← q23]; exact g1)
      unfold WNb at this ⊢
      rw [q23, q25, q26, g14]
      rw [q23] at g1
      obtain ⟨k1, k2, k3, k4, k5, k6, k7, k9, k12, k22, k23⟩ := this
      exact ⟨k1, k2, k3, k4, k5, k6, k7, k9, fun z => absurd z g1, k22, k23⟩
    · rw [q23] at z
      obtain ⟨z1, z2, z3⟩ := n12 z
      rw [q26, q27]
      refine ⟨z1, z2, fun y => ?_⟩
      rcases q30 with q | q | q
      · exact z3 q
      · exact q
      · exact absurd q y
    · rw [q23] at z; exact n15 z
    · rw [q23] at z; exact n20 z
    · unfold LOW
      rw [q23, q25, q26, q31]
      refine ⟨l1, fun z => ⟨(l2 z).1, fun y y2 => ?_⟩, fun z y => ?_, l4, l5, l6⟩
      · have := (l2 z).2 y y2
        rw [gn 26 _ (by decide) (by omega) (by omega)]
        exact this
      · have := l3 z y
        rw [gn 26 _ (by decide) (by omega) (by omega)]
        exact this
  · obtain ⟨⟨⟨many, d1, d2, d3⟩, d4, d5, d6, d7⟩, o1, o2⟩ := hf.2.1 c h1 h2
    have q40 := gc 40 c (by decide) h1 h2
    have q41 := gc 41 c (by decide) h1 h2
    have q42 := gc 42 c (by decide) h1 h2
    have q43 := gc 43 c (by decide) h1 h2
    have q45 := gc 45 c (by decide) h1 h2
    unfold CWD CLO
    rw [q40, q41, q42, q43, q45]
    refine ⟨⟨⟨many, d1, d2, PATS_ag d3 gp⟩, d4, d5, d6, ?_⟩, o1, o2⟩
    rcases d7 with d7 | ⟨d, g1, g2, g3, g4, g5⟩
    · exact Or.inl d7
    · exact Or.inr ⟨d, g1, g2, g3, by rw [gc 41 d (by decide) (by omega) g3]; exact g4, g5⟩
  · obtain ⟨⟨x, h, r, f1, f2, f3, f4, f5, f6⟩, f7⟩ := hf.2.2 u h1 h2
    unfold FNW
    rw [gu 53 u (by decide) h1 h2, gu 54 u (by decide) h1 h2, gu 55 u (by decide) h1 h2]
    refine ⟨⟨x, h, r, f1, f2, f3, f4, f5, ?_⟩, f7⟩
    obtain ⟨c, c1, c2, c3⟩ := id f6
    rw [c1] at f6 f7 ⊢
    exact cls (by omega) f6
end
end
section
def SEQ (w : MS) (SN g : Nat) (a b : Nat → Nat) (q q2 m m2 lo mm X Y sh : Nat) (R : Nat → Prop) : Prop :=
  ((∀ i, a i ≤ b i) ∧ (g ≠ 0 → m2 = m) ∧ lo ≤ m ∧ lo ≤ m2 ∧ m ≤ mm ∧ m2 ≤ mm ∧ q ≤ X ∧ q2 ≤ X ∧ ∀ n, R n → a 0 ≤ n ∧ n < b 0) ∧
  ∀ (Z : Nat → Nat) (h rk : Nat), Z 5 ≤ h → Z 6 ≤ lo → h + X ≤ 760 → Z 3 + Y ≤ 26 → sh ≤ Z 2 → mm + Z 2 ≤ 40 → (g = 0 → Z 4 = 0) ∧ (g = 2 → Z 4 ≠ 0) → 1 ≤ rk → rk + (b 0 - a 0) ≤ 16000 →
    ∃ T C, ETY T Z (h + q) m (a 0) ∧ ETY T Z (h + q2) m2 (b 0) ∧ tR T (b 0) = rk ∧ (a 0 < b 0 → rk < tR T (a 0)) ∧ tR T (a 0) ≤ rk + (b 0 - a 0) ∧ (∀ n, R n → kq w T n = Z 3) ∧ FRG w T C Z rk m a b SN (fun _ => False) R
section
variable {w w2 : MS} {T T1 : TY} {C C1 : CY} {Z Z1 a b c a2 b2 : Nat → Nat} {g q q2 q3 m m2 m3 lo mm X Y sh lo2 mm2 X2 Y2 sh2 rk SN : Nat} {R R1 R2 : Nat → Prop}
theorem SEQ_mo (s : SEQ w SN g a b q q2 m m2 lo mm X Y sh R) (h1 : lo2 ≤ lo) (h2 : mm ≤ mm2) (h3 : X ≤ X2) (h4 : Y ≤ Y2) (h5 : sh ≤ sh2) : SEQ w SN g a b q q2 m m2 lo2 mm2 X2 Y2 sh2 R := by
  obtain ⟨⟨s1, s2, s3, s4, s5, s6, s7, s8, s9⟩, s10⟩ := s
  refine ⟨⟨s1, s2, by omega, by omega, by omega, by omega, by omega, by omega, s9⟩, fun Z h rk z1 z2 z3 z4 z5 z6 z7 z8 z9 => ?_⟩
  exact s10 Z h rk z1 (by omega) (by omega) (by omega) (by omega) (by omega) z7 z8 z9
theorem SEQ_ro (s : SEQ w SN g a b q q2 m m2 lo mm X Y sh R) (h6 : ∀ n, R2 n → R n) (h7 : ∀ n, R n → R2 n ∨ A w 29 n = -1) : SEQ w SN g a b q q2 m m2 lo mm X Y sh R2 := by
  obtain ⟨⟨s1, s2, s3, s4, s5, s6, s7, s8, s9⟩, s10⟩ := s
  refine ⟨⟨s1, s2, s3, s4, s5, s6, s7, s8, fun n hn => s9 n (h6 n hn)⟩, fun Z h rk z1 z2 z3 z4 z5 z6 z7 z8 z9 => ?_⟩
  obtain ⟨T, C, t1, t2, t3, t4, t5, t6, t7⟩ := s10 Z h rk z1 z2 z3 z4 z5 z6 z7 z8 z9
  refine ⟨T, C, t1, t2, t3, t4, t5, fun n hn => t6 n (h6 n hn), fun n h1 h2 => ?_, t7.2⟩
  obtain ⟨n1, n2, n3, n4, n5, n6, n7, n8, n9⟩ := t7.1 n h1 h2
  refine ⟨n1, n2, n3, n4, n5, n6, n7, n8, ?_⟩
  rcases n9 with n9 | n9
  · rcases h7 n n9 with y | y
    · exact Or.inl y
    · exact Or.inr (Or.inl y)
  · exact Or.inr n9
theorem SEQ_up (s : SEQ w SN g a b q q2 m m2 lo mm X Y sh R) (e : Nat) : SEQ w SN g a b (q + e) (q2 + e) m m2 lo mm (X + e) Y sh R := by
  obtain ⟨⟨s1, s2, s3, s4, s5, s6, s7, s8, s9⟩, s10⟩ := s
  refine ⟨⟨s1, s2, s3, s4, s5, s6, by omega, by omega, s9⟩, fun Z h rk z1 z2 z3 z4 z5 z6 z7 z8 z9 => ?_⟩
  obtain ⟨T, C, t1, t2, t3⟩ := s10 Z (h + e) rk (by omega) z2 (by omega) z4 z5 z6 z7 z8 z9
  exact ⟨T, C, by rw [show h + (q + e) = h + e + q from by omega]; exact t1, by rw [show h + (q2 + e) = h + e + q2 from by omega]; exact t2, t3⟩
def cat (n : Nat) (T T1 : Nat → Nat → Nat) : Nat → Nat → Nat := fun k i => if i < n then T k i else T1 k i
theorem cat_l {n k i : Nat} {T T1 : Nat → Nat → Nat} (h : i < n) : cat n T T1 k i = T k i := if_pos h
theorem cat_r {n k i : Nat} {T T1 : Nat → Nat → Nat} (h : n ≤ i) : cat n T T1 k i = T1 k i := if_neg (by omega)
theorem ETY_eq {h mm2 n : Nat} (e : ETY T1 Z h mm2 n) (h1 : ∀ k, k ≤ 8 → T k n = T1 k n) : ETY T Z h mm2 n := by
  unfold ETY at e ⊢
  rw [h1 0 (by decide), h1 1 (by decide), h1 2 (by decide), h1 3 (by decide), h1 4 (by decide), h1 5 (by decide), h1 6 (by decide), h1 7 (by decide)]
  exact e
theorem ETY_t {h n : Nat} (e : ETY T Z h m n) : tH T n = h ∧ tM T n = m ∧ tL T n = Z 2 ∧ tK T n = Z 3 ∧ tG T n = Z 4 ∧ tB T n = Z 5 ∧ tD T n = Z 6 ∧ tC T n = Z 7 := e
theorem KOUT_eq {rk2 n : Nat} (y : KOUT T1 Z rk n) (h1 : ∀ k, k ≤ 8 → T k n = T1 k n) (hr : rk2 ≤ rk) : KOUT T Z rk2 n := by
  unfold KOUT tC tK tL tB tD tR at y ⊢
  rw [h1 7 (by decide), h1 3 (by decide), h1 2 (by decide), h1 5 (by decide), h1 6 (by decide), h1 8 (by decide)]
  exact ⟨y.1, y.2.1, y.2.2.1, y.2.2.2.1, y.2.2.2.2.1, by omega⟩
theorem GOUT_eq {rk2 n : Nat} (y : GOUT w T1 Z rk m n) (h1 : ∀ k, k ≤ 8 → T k n = T1 k n) (hr : rk2 ≤ rk) (hm : m = m2) : GOUT w T Z rk2 m2 n := by
  unfold GOUT tM tR at y ⊢
  rw [h1 1 (by decide), h1 2 (by decide), h1 3 (by decide), h1 4 (by decide), h1 5 (by decide), h1 7 (by decide), h1 8 (by decide)]
  obtain ⟨y1, y2, y3, y4, y5, y6, y7, y8⟩ := y
  exact ⟨y1, by omega, y3, y4, y5, y6, y7, by omega⟩
theorem seam {h mm2 n : Nat} (e : ETY T Z h mm2 n) (f : ETY T1 Z h mm2 n) (r : tR T n = tR T1 n) : ∀ k, k ≤ 8 → T k n = T1 k n := fun k hk => by
  obtain ⟨e0, e1, e2, e3, e4, e5, e6, e7⟩ := e
  obtain ⟨f0, f1, f2, f3, f4, f5, f6, f7⟩ := f
  match k, hk with
  | 0, _ => exact e0.trans f0.symm
  | 1, _ => exact e1.trans f1.symm
  | 2, _ => exact e2.trans f2.symm
  | 3, _ => exact e3.trans f3.symm
  | 4, _ => exact e4.trans f4.symm
  | 5, _ => exact e5.trans f5.symm
  | 6, _ => exact e6.trans f6.symm
  | 7, _ => exact e7.trans f7.symm
  | 8, _ => exact r
  | k + 9, h => exact absurd h (by omega)
theorem SEQ_app (s : SEQ w SN g a b q q2 m m2 lo mm X Y sh R1) (t : SEQ w SN g b c q2 q3 m2 m3 lo mm X Y sh R2) : SEQ w SN g a c q q3 m m3 lo mm X Y sh (fun n => R1 n ∨ R2 n) := by
  obtain ⟨⟨s1, s2, s3, s4, s5, s6, s7, s8, s9⟩, s10⟩ := s
  obtain ⟨⟨t1, t2, t3, t4, t5, t6, t7, t8, t9⟩, t10⟩ := t
  have s0 := s1 0
  have t0 := t1 0
  refine ⟨⟨fun i => Nat.le_trans (s1 i) (t1 i), fun z => (t2 z).trans (s2 z), s3, t4, s5, t6, s7, t8, fun n hn => ?_⟩, fun Z h rk z1 z2 z3 z4 z5 z6 z7 z8 z9 => ?_⟩
  · rcases hn with hn | hn
    · have := s9 n hn; omega
    · have := t9 n hn; omega
  obtain ⟨T2, C2, u1, u2, u3, u4, u5, u6, u7⟩ := t10 Z h rk z1 z2 z3 z4 z5 z6 z7 z8 (by omega)
  have hr : rk ≤ tR T2 (b 0) := by
    rcases Nat.lt_or_eq_of_le t0 with x | x
    · have := u4 x; omega
    · rw [x, u3]; exact Nat.le_refl _
  obtain ⟨T1, C1, v1, v2, v3, v4, v5, v6, v7⟩ := s10 Z h (tR T2 (b 0)) z1 z2 z3 z4 z5 z6 z7 (by omega) (by omega)
  have sm := seam v2 u1 v3
  have e1 : ∀ k n, k ≤ 8 → a 0 ≤ n → n ≤ b 0 → cat (b 0) T1 T2 k n = T1 k n := fun k n hk h1 h2 => by
    rcases Nat.lt_or_eq_of_le h2 with x | x
    · exact cat_l x
    · rw [cat_r (by omega), x]; exact (sm k hk).symm
  have e2 : ∀ k n, k ≤ 8 → b 0 ≤ n → n ≤ c 0 → cat (b 0) T1 T2 k n = T2 k n := fun k n hk h1 h2 => cat_r h1
  have f1 : ∀ k n, a 1 ≤ n → n < b 1 → cat (b 1) C1 C2 k n = C1 k n := fun k n h1 h2 => cat_l h2
  have f2 : ∀ k n, b 1 ≤ n → n < c 1 → cat (b 1) C1 C2 k n = C2 k n := fun k n h1 h2 => cat_r h1
  have A1 := FRG_tr (a2 := a) (b2 := c) (Z := Z) (rk := rk) (m := m) (E := fun _ => False) (S := fun n => R1 n ∨ R2 n) v7 (fun i => Nat.le_refl _) t1 e1 f1 (fun n h1 h2 _ y => Or.inr (KOUT_eq y (fun k hk => e1 k n hk h1 (by omega)) hr)) (fun n h1 h2 _ y => Or.inr (GOUT_eq y (fun k hk => e1 k n hk h1 (by omega)) hr rfl)) (fun n => id) (fun n => Or.inl)
  have A2 := FRG_tr (a2 := a) (b2 := c) (Z := Z) (rk := rk) (m := m) (E := fun _ => False) (S := fun n => R1 n ∨ R2 n) u7 s1 (fun i => Nat.le_refl _) e2 f2 (fun n h1 h2 _ y => Or.inr (KOUT_eq y (fun k hk => e2 k n hk h1 (by omega)) (Nat.le_refl _))) (fun n h1 h2 y0 y => Or.inr (GOUT_eq y (fun k hk => e2 k n hk h1 (by omega)) (Nat.le_refl _) (s2 (fun e => y0 (y.2.2.2.2.1.trans (z7.1 e)))))) (fun n => id) (fun n => Or.inr)
  refine ⟨cat (b 0) T1 T2, cat (b 1) C1 C2, ETY_eq v1 (fun k hk => e1 k _ hk (Nat.le_refl _) s0), ETY_eq u2 (fun k hk => e2 k _ hk t0 (Nat.le_refl _)), (e2 8 _ (by decide) t0 (Nat.le_refl _)).trans u3, fun hlt => ?_, ?_, fun n hn => ?_, fun n h1 h2 => ?_, fun n h1 h2 => ?_, fun n h1 h2 => ?_⟩
  · refine Nat.lt_of_lt_of_le ?_ (Nat.le_of_eq (e1 8 _ (by decide) (Nat.le_refl _) s0).symm)
    show rk < tR T1 (a 0)
    rcases Nat.lt_or_eq_of_le s0 with x | x
    · have := v4 x; omega
    · rw [x, v3]; exact u4 (by omega)
  · refine Nat.le_trans (Nat.le_of_eq (e1 8 _ (by decide) (Nat.le_refl _) s0)) ?_
    show tR T1 (a 0) ≤ _
    omega
  · rcases hn with hn | hn
    · have := s9 n hn
      have y := v6 n hn
      unfold kq at y ⊢
      rw [show tK (cat (b 0) T1 T2) n = tK T1 n from e1 3 n (by decide) this.1 (by omega)]
      exact y
    · have := t9 n hn
      have y := u6 n hn
      unfold kq at y ⊢
      rw [show tK (cat (b 0) T1 T2) n = tK T2 n from e2 3 n (by decide) this.1 (by omega)]
      exact y
  · rcases Nat.lt_or_ge n (b 0) with x | x
    · exact A1.1 n h1 x
    · exact A2.1 n x h2
  · rcases Nat.lt_or_ge n (b 1) with x | x
    · exact A1.2.1 n h1 x
    · exact A2.2.1 n x h2
  · rcases Nat.lt_or_ge n (b 3) with x | x
    · exact A1.2.2 n h1 x
    · exact A2.2.2 n x h2
theorem SEQ_st (s : SEQ w SN g a b q q2 m m2 lo mm X Y sh R) (ag : AG w w2 a b) (h : ∀ r n, r ∈ [28, 29, 30] → a 0 ≤ n → n < b 0 → (r = 29 → ¬ R n) → A w2 r n = A w r n) : SEQ w2 SN g a b q q2 m m2 lo mm X Y sh R := by
  refine ⟨s.1, fun Z h' rk z1 z2 z3 z4 z5 z6 z7 z8 z9 => ?_⟩
  obtain ⟨T, C, t1, t2, t3, t4, t5, t6, t7⟩ := s.2 Z h' rk z1 z2 z3 z4 z5 z6 z7 z8 z9
  have kk : ∀ n, a 0 ≤ n → n < b 0 → kq w2 T n = kq w T n := fun n h1 h2 => by unfold kq; rw [ag.2.1 23 n (by decide) h1 h2]
  refine ⟨T, C, t1, t2, t3, t4, t5, fun n hn => (kk n (s.1.2.2.2.2.2.2.2.2 n hn).1 (s.1.2.2.2.2.2.2.2.2 n hn).2).trans (t6 n hn), FRG_st t7 ag (fun n h1 h2 y => Or.inl (by rw [← h 30 n (by decide) h1 h2 (fun e => by omega)]; exact y)) (fun n h1 h2 => ?_)⟩
  have y := (t7.1 n h1 h2).2.2.2.2.2.2.2
  unfold RNK
  rw [h 28 n (by decide) h1 h2 (fun e => by omega)]
  refine ⟨y.1.imp id fun ⟨x, x1, x2, x3, x4⟩ => ⟨x, x1, x2, x3, by rw [kk x x2 x3, kk n h1 h2]; exact x4⟩, ?_⟩
  by_cases z : R n
  · exact Or.inl z
  · rw [h 29 n (by decide) h1 h2 (fun _ => z)]
    exact y.2.imp id (fun o => o.imp id fun ⟨x, x1, x2, x3, x4⟩ => ⟨x, x1, x2, x3, by rw [kk x x2 x3, kk n h1 h2]; exact x4⟩)
theorem SEQ_g2 (s : SEQ w SN 1 a b q q2 m m2 lo mm X Y sh R) : SEQ w SN 2 a b q q2 m m2 lo mm X Y sh R := ⟨⟨s.1.1, fun _ => s.1.2.1 (by decide), s.1.2.2⟩, fun Z h rk z1 z2 z3 z4 z5 z6 _ => s.2 Z h rk z1 z2 z3 z4 z5 z6 ⟨fun e => by omega, fun e => by omega⟩⟩
end
end
section
section
variable {w w2 : MS} {T T1 : TY} {C C1 : CY} {Z Z1 a b c a2 b2 : Nat → Nat} {g q q2 q3 m m2 m3 lo mm X Y sh lo2 mm2 X2 Y2 sh2 rk SN n x y : Nat} {R R1 R2 : Nat → Prop}
def NEWN (w : MS) (n : Nat) (k : Int) : Prop := A w 23 n = k ∧ 0 ≤ A w 24 n ∧ A w 24 n < 4002 ∧ A w 28 n = -1 ∧ A w 29 n = -1 ∧ A w 30 n = 0
def ONE (a b : Nat → Nat) (n : Nat) : Prop := a 0 = n ∧ b 0 = n + 1 ∧ b 1 = a 1 ∧ b 3 = a 3 ∧ ∀ i, a i ≤ b i
def ty1 (Z : Nat → Nat) (h m h2 m2 rk n : Nat) : TY := fun k i => if i = n then (if k = 0 then h else if k = 1 then m else if k = 8 then rk + 1 else Z k) else (if k = 0 then h2 else if k = 1 then m2 else if k = 8 then rk else Z k)
theorem ty1_a {h h2 : Nat} : ETY (ty1 Z h m h2 m2 rk n) Z h m n := by
  unfold ETY ty1
  simp only [if_true, if_pos rfl]
  simp
theorem ty1_b {h h2 i : Nat} (hi : i ≠ n) : ETY (ty1 Z h m h2 m2 rk n) Z h2 m2 i := by
  unfold ETY ty1
  simp only [if_neg hi]
  simp
theorem NX_c {h mm2 h2 m3 i : Nat} (e : NX T n i h mm2) (h1 : h = h2) (h3 : mm2 = m3) : NX T n i h2 m3 := by subst h1; subst h3; exact e
theorem PAT_L {f g2 : Nat → Nat} {PN L L2 : Nat} {z : Int} (h : PAT w f g2 PN SN L m m2 z) (hl : L ≤ L2) : PAT w f g2 PN SN L2 m m2 z := by
  obtain ⟨q, pM, pE, q1, q2, q3, q4, q5, q6, q7⟩ := h
  refine ⟨q, pM, pE, q1, q2, q3, q4, q5, q6, fun k h1 h2 => ?_⟩
  obtain ⟨p1, p2, p3, p4, p5, p6, p7, p8, p9⟩ := q7 k h1 h2
  exact ⟨p1, p2, p3, p4, p5, p6, fun z => ⟨(p7 z).1, (p7 z).2.1, (p7 z).2.2.imp id (fun y => by omega)⟩, p8, p9⟩
theorem PATS_L {f g2 : Nat → Nat} {PN L L2 many : Nat} {z : Int} (h : PATS w f g2 PN SN L m m2 many z) (hl : L ≤ L2) : PATS w f g2 PN SN L2 m m2 many z := by
  rcases h with h | ⟨q0, q, pM, pE, q1, q2, q3, q4, q5, q6, q7, q8⟩
  · exact Or.inl h
  · refine Or.inr ⟨q0, q, pM, pE, q1, q2, q3, q4, q5, q6, q7, fun k h1 h2 => ?_⟩
    obtain ⟨p1, p2, p3, p4, p5, p6, p7, p8, p9⟩ := q8 k h1 h2
    exact ⟨p1, p2, p3, p4, p5, p6, fun z => ⟨(p7 z).1, (p7 z).2.1, (p7 z).2.2.imp id (fun y => by omega)⟩, p8, p9⟩
theorem SEQ_one (o : ONE a b n) (hk : 1 ≤ A w 23 n ∧ A w 23 n ≤ 31 ∧ 0 ≤ A w 24 n ∧ A w 24 n < 4002 ∧ A w 28 n = -1 ∧ A w 29 n = -1) (hj : (A w 23 n ≤ 8 ∨ (11 ≤ A w 23 n ∧ A w 23 n ≤ 13) ∨ (15 ≤ A w 23 n ∧ A w 23 n ≤ 18) ∨ A w 23 n = 22 ∨ A w 23 n = 30)) (hp : (g ≠ 0 → m2 = m) ∧ lo ≤ m ∧ lo ≤ m2 ∧ m ≤ mm ∧ m2 ≤ mm ∧ q ≤ X ∧ q2 ≤ X)
    (hN : ∀ (T : TY) (C : CY) (Z : Nat → Nat) (h : Nat), Z 5 ≤ h → sh ≤ Z 2 → (g = 0 → Z 4 = 0) ∧ (g = 2 → Z 4 ≠ 0) → Z 6 ≤ lo → ETY T Z (h + q) m n → NX T n (n + 1) (h + q2) m2 → (A w 23 n ≠ 15 → WNa w T C id id (b 0 + 1) (b 1) (b 2) SN (b 3) 0 n) ∧ (A w 23 n ≠ 12 → WNb w T C (b 0 + 1) SN 0 n) ∧ P12 w T n ∧ P15 w T n) : SEQ w SN g a b q q2 m m2 lo mm X Y sh (fun i => i = n) := by
  obtain ⟨o0, o1, o2, o3, o4⟩ := o
  obtain ⟨p1, p2, p3, p4, p5, p6, p7⟩ := hp
  refine ⟨⟨o4, p1, p2, p3, p4, p5, p6, p7, fun i hi => by omega⟩, fun Z h rk z1 z2 z3 z4 z5 z6 z7 z8 z9 => ?_⟩
  have ea : ETY (ty1 Z (h + q) m (h + q2) m2 rk n) Z (h + q) m n := ty1_a
  have eb : ETY (ty1 Z (h + q) m (h + q2) m2 rk n) Z (h + q2) m2 (n + 1) := ty1_b (by omega)
  have ra : tR (ty1 Z (h + q) m (h + q2) m2 rk n) n = rk + 1 := by unfold tR ty1; simp
  have rb : tR (ty1 Z (h + q) m (h + q2) m2 rk n) (n + 1) = rk := by unfold tR ty1; simp
  generalize ty1 Z (h + q) m (h + q2) m2 rk n = T at *
  obtain ⟨w1, w2, w3, w4⟩ := hN T (fun _ _ => 0) Z h z1 z5 z7 z2 ea (ETY_nx ea eb (by omega))
  obtain ⟨e0, e1, e2, e3, e4, e5, e6, e7⟩ := id ea
  refine ⟨T, fun _ _ => 0, by rw [o0]; exact ea, by rw [o1]; exact eb, by rw [o1]; exact rb, fun _ => by rw [o0]; omega, by rw [o0]; omega, fun i hi => by rw [hi]; unfold kq; rw [if_neg (by omega)]; exact e3, fun i h1 h2 => ?_, fun i h1 h2 => by omega, fun i h1 h2 => by omega⟩
  obtain rfl : i = n := by omega
  refine ⟨⟨⟨?_, ?_, ?_, ?_, ?_, by omega, by omega⟩, fun _ => Or.inr ⟨e7, e3, e2, Nat.le_of_eq e5.symm, Nat.le_of_eq e6.symm, by omega⟩, fun _ => Or.inr ⟨by omega, e1, e2, e3, e4, e5, e7, by omega⟩, by omega⟩, fun y _ => w1 y, w2, w3, w4, fun y => by omega, ⟨fun y => by omega, fun y => by omega, fun y => by omega, fun y => by omega, fun y => by omega, fun y => by omega⟩, Or.inl hk.2.2.2.2.1, Or.inr (Or.inl hk.2.2.2.2.2)⟩
  · show T 0 i ≤ 760; omega
  · show T 1 i + T 2 i ≤ 40; omega
  · show T 3 i ≤ 26; omega
  · show T 5 i ≤ T 0 i; omega
  · show T 6 i ≤ T 1 i; omega
theorem s1 (o : ONE a b n) (nw : NEWN w n 1) (hr : lo ≤ m ∧ m ≤ mm ∧ 1 ≤ X) (h25 : A w 25 n = 0 ∨ (A w 25 n = 1 ∧ 0 ≤ A w 26 n ∧ A w 26 n < F w 14)) : SEQ w SN g a b 0 1 m m lo mm X Y sh (fun i => i = n) := by
  obtain ⟨nk, n1, n2, n3, n4, n5⟩ := nw
  refine SEQ_one o ⟨by omega, by omega, n1, n2, n3, n4⟩ (by omega) ⟨fun z => rfl, by omega, by omega, by omega, by omega, by omega, by omega⟩ (fun T C Z h z1 z2 z3 z4 e nx => ?_)
  obtain ⟨e0, e1, e2, e3, e4, e5, e6, e7⟩ := e
  have r0 : tH T n = h + (0) := e0
  have r1 : tM T n = m := e1
  have r2 : tL T n = Z 2 := e2
  have r4 : tG T n = Z 4 := e4
  have r5 : tB T n = Z 5 := e5
  have r6 : tD T n = Z 6 := e6
  exact ⟨fun _ => ⟨fun z => by omega, fun z => by omega, fun z => by omega, fun z => by omega, fun z => by omega, fun z => by omega, fun z => by omega, fun z => by omega, fun z => by omega, fun z => by omega, fun z => by omega, fun z => by omega, fun z => by omega, fun z => by omega, fun z => by omega, fun z => by omega⟩, fun _ => ⟨fun _ => ⟨h25, NX_c nx (by omega) (by omega)⟩, fun z => by omega, fun z => by omega, fun z => by omega, fun z => by omega, fun z => by omega, fun z => by omega, fun z => by omega, fun z => by omega, fun z => by omega, fun z => by omega⟩, fun z => by omega, fun z => by omega⟩
theorem s2 (o : ONE a b n) (nw : NEWN w n 2) (hr : lo ≤ m ∧ m ≤ mm ∧ 1 ≤ X) (h25 : 0 ≤ A w 25 n ∧ A w 25 n < SN) : SEQ w SN g a b 0 1 m m lo mm X Y sh (fun i => i = n) := by
  obtain ⟨nk, n1, n2, n3, n4, n5⟩ := nw
  refine SEQ_one o ⟨by omega, by omega, n1, n2, n3, n4⟩ (by omega) ⟨fun z => rfl, by omega, by omega, by omega, by omega, by omega, by omega⟩ (fun T C Z h z1 z2 z3 z4 e nx => ?_)
  obtain ⟨e0, e1, e2, e3, e4, e5, e6, e7⟩ := e
  have r0 : tH T n = h + (0) := e0
  have r1 : tM T n = m := e1
  have r2 : tL T n = Z 2 := e2
  have r4 : tG T n = Z 4 := e4
  have r5 : tB T n = Z 5 := e5
  have r6 : tD T n = Z 6 := e6
  exact ⟨fun _ => ⟨fun z => by omega, fun z => by omega, fun z => by omega, fun z => by omega, fun z => by omega, fun z => by omega, fun z => by omega, fun z => by omega, fun z => by omega, fun z => by omega, fun z => by omega, fun z => by omega, fun z => by omega, fun z => by omega, fun z => by omega, fun z => by omega⟩, fun _ => ⟨fun z => by omega, fun _ => ⟨h25.1, h25.2, NX_c nx (by omega) (by omega)⟩, fun z => by omega, fun z => by omega, fun z => by omega, fun z => by omega, fun z => by omega, fun z => by omega, fun z => by omega, fun z => by omega, fun z => by omega⟩, fun z => by omega, fun z => by omega⟩
theorem s3 (o : ONE a b n) (nw : NEWN w n 3) (hr : lo ≤ m ∧ m ≤ mm ∧ 1 ≤ X) (h25 : NCO (A w 25 n) m sh) : SEQ w SN g a b 0 1 m m lo mm X Y sh (fun i => i = n) := by
  obtain ⟨nk, n1, n2, n3, n4, n5⟩ := nw
  refine SEQ_one o ⟨by omega, by omega, n1, n2, n3, n4⟩ (by omega) ⟨fun z => rfl, by omega, by omega, by omega, by omega, by omega, by omega⟩ (fun T C Z h z1 z2 z3 z4 e nx => ?_)
  obtain ⟨e0, e1, e2, e3, e4, e5, e6, e7⟩ := e
  have r0 : tH T n = h + (0) := e0
  have r1 : tM T n = m := e1
  have r2 : tL T n = Z 2 := e2
  have r4 : tG T n = Z 4 := e4
  have r5 : tB T n = Z 5 := e5
  have r6 : tD T n = Z 6 := e6
  exact ⟨fun _ => ⟨fun z => by omega, fun z => by omega, fun z => by omega, fun z => by omega, fun z => by omega, fun z => by omega, fun z => by omega, fun z => by omega, fun z => by omega, fun z => by omega, fun z => by omega, fun z => by omega, fun z => by omega, fun z => by omega, fun z => by omega, fun z => by omega⟩, fun _ => ⟨fun z => by omega, fun z => by omega, fun _ => ⟨by rw [r1, r2]; exact h25.imp id (fun y => by omega), NX_c nx (by omega) (by omega)⟩, fun z => by omega, fun z => by omega, fun z => by omega, fun z => by omega, fun z => by omega, fun z => by omega, fun z => by omega, fun z => by omega⟩, fun z => by omega, fun z => by omega⟩
theorem s4 (o : ONE a b n) (nw : NEWN w n 4) (hr : lo ≤ m ∧ m ≤ mm ∧ 1 ≤ X ∧ x ≤ X) (h25 : A w 25 n = x) (hx : x ≤ 8) : SEQ w SN g a b x 1 m m lo mm X Y sh (fun i => i = n) := by
  obtain ⟨nk, n1, n2, n3, n4, n5⟩ := nw
  refine SEQ_one o ⟨by omega, by omega, n1, n2, n3, n4⟩ (by omega) ⟨fun z => rfl, by omega, by omega, by omega, by omega, by omega, by omega⟩ (fun T C Z h z1 z2 z3 z4 e nx => ?_)
  obtain ⟨e0, e1, e2, e3, e4, e5, e6, e7⟩ := e
  have r0 : tH T n = h + (x) := e0
  have r1 : tM T n = m := e1
  have r2 : tL T n = Z 2 := e2
  have r4 : tG T n = Z 4 := e4
  have r5 : tB T n = Z 5 := e5
  have r6 : tD T n = Z 6 := e6
  exact ⟨fun _ => ⟨fun z => by omega, fun z => by omega, fun z => by omega, fun z => by omega, fun z => by omega, fun z => by omega, fun z => by omega, fun z => by omega, fun z => by omega, fun z => by omega, fun z => by omega, fun z => by omega, fun z => by omega, fun z => by omega, fun z => by omega, fun z => by omega⟩, fun _ => ⟨fun z => by omega, fun z => by omega, fun z => by omega, fun _ => ⟨x, h25, hx, by omega, NX_c nx (by omega) (by omega)⟩, fun z => by omega, fun z => by omega, fun z => by omega, fun z => by omega, fun z => by omega, fun z => by omega, fun z => by omega⟩, fun z => by omega, fun z => by omega⟩
theorem s5 (o : ONE a b n) (nw : NEWN w n 5) (hr : lo ≤ m ∧ m ≤ mm ∧ 1 ≤ X ∧ x + y ≤ X) (h25 : A w 25 n = x) (h26 : A w 26 n = y) (hx : x ≤ 8) (hy : y ≤ 1) : SEQ w SN g a b (x + y) 1 m m lo mm X Y sh (fun i => i = n) := by
  obtain ⟨nk, n1, n2, n3, n4, n5⟩ := nw
  refine SEQ_one o ⟨by omega, by omega, n1, n2, n3, n4⟩ (by omega) ⟨fun z => rfl, by omega, by omega, by omega, by omega, by omega, by omega⟩ (fun T C Z h z1 z2 z3 z4 e nx => ?_)
  obtain ⟨e0, e1, e2, e3, e4, e5, e6, e7⟩ := e
  have r0 : tH T n = h + ((x + y)) := e0
  have r1 : tM T n = m := e1
  have r2 : tL T n = Z 2 := e2
  have r4 : tG T n = Z 4 := e4
  have r5 : tB T n = Z 5 := e5
  have r6 : tD T n = Z 6 := e6
  exact ⟨fun _ => ⟨fun z => by omega, fun z => by omega, fun z => by omega, fun z => by omega, fun z => by omega, fun z => by omega, fun z => by omega, fun z => by omega, fun z => by omega, fun z => by omega, fun z => by omega, fun z => by omega, fun z => by omega, fun z => by omega, fun z => by omega, fun z => by omega⟩, fun _ => ⟨fun z => by omega, fun z => by omega, fun z => by omega, fun z => by omega, fun _ => ⟨x, y, h25, h26, hx, hy, by omega, NX_c nx (by omega) (by omega)⟩, fun z => by omega, fun z => by omega, fun z => by omega, fun z => by omega, fun z => by omega, fun z => by omega⟩, fun z => by omega, fun z => by omega⟩
theorem s6 (o : ONE a b n) (nw : NEWN w n 6) (hr : lo ≤ m ∧ m ≤ mm ∧ 2 ≤ X) (h25 : 100 ≤ A w 25 n ∨ (12 ≤ A w 25 n ∧ A w 25 n ≤ 20) ∨ A w 25 n = 22 ∨ A w 25 n = 23) : SEQ w SN g a b 2 1 m m lo mm X Y sh (fun i => i = n) := by
  obtain ⟨nk, n1, n2, n3, n4, n5⟩ := nw
  refine SEQ_one o ⟨by omega, by omega, n1, n2, n3, n4⟩ (by omega) ⟨fun z => rfl, by omega, by omega, by omega, by omega, by omega, by omega⟩ (fun T C Z h z1 z2 z3 z4 e nx => ?_)
  obtain ⟨e0, e1, e2, e3, e4, e5, e6, e7⟩ := e
  have r0 : tH T n = h + (2) := e0
  have r1 : tM T n = m := e1
  have r2 : tL T n = Z 2 := e2
  have r4 : tG T n = Z 4 := e4
  have r5 : tB T n = Z 5 := e5
  have r6 : tD T n = Z 6 := e6
  exact ⟨fun _ => ⟨fun z => by omega, fun z => by omega, fun z => by omega, fun z => by omega, fun z => by omega, fun z => by omega, fun z => by omega, fun z => by omega, fun z => by omega, fun z => by omega, fun z => by omega, fun z => by omega, fun z => by omega, fun z => by omega, fun z => by omega, fun z => by omega⟩, fun _ => ⟨fun z => by omega, fun z => by omega, fun z => by omega, fun z => by omega, fun z => by omega, fun _ => ⟨by omega, NX_c nx (by omega) (by omega), h25⟩, fun z => by omega, fun z => by omega, fun z => by omega, fun z => by omega, fun z => by omega⟩, fun z => by omega, fun z => by omega⟩
theorem s7 (o : ONE a b n) (nw : NEWN w n 7) (hr : lo ≤ m ∧ m ≤ mm ∧ 1 ≤ X) : SEQ w SN g a b 1 1 m m lo mm X Y sh (fun i => i = n) := by
  obtain ⟨nk, n1, n2, n3, n4, n5⟩ := nw
  refine SEQ_one o ⟨by omega, by omega, n1, n2, n3, n4⟩ (by omega) ⟨fun z => rfl, by omega, by omega, by omega, by omega, by omega, by omega⟩ (fun T C Z h z1 z2 z3 z4 e nx => ?_)
  obtain ⟨e0, e1, e2, e3, e4, e5, e6, e7⟩ := e
  have r0 : tH T n = h + (1) := e0
  have r1 : tM T n = m := e1
  have r2 : tL T n = Z 2 := e2
  have r4 : tG T n = Z 4 := e4
  have r5 : tB T n = Z 5 := e5
  have r6 : tD T n = Z 6 := e6
  exact ⟨fun _ => ⟨fun z => by omega, fun z => by omega, fun z => by omega, fun z => by omega, fun z => by omega, fun z => by omega, fun z => by omega, fun z => by omega, fun z => by omega, fun z => by omega, fun z => by omega, fun z => by omega, fun z => by omega, fun z => by omega, fun z => by omega, fun z => by omega⟩, fun _ => ⟨fun z => by omega, fun z => by omega, fun z => by omega, fun z => by omega, fun z => by omega, fun z => by omega, fun _ => ⟨by omega, NX_c nx (by omega) (by omega)⟩, fun z => by omega, fun z => by omega, fun z => by omega, fun z => by omega⟩, fun z => by omega, fun z => by omega⟩
theorem s8 (o : ONE a b n) (nw : NEWN w n 8) (hr : lo ≤ m ∧ m ≤ mm ∧ 1 ≤ X) : SEQ w SN g a b 1 1 m m lo mm X Y sh (fun i => i = n) := by
  obtain ⟨nk, n1, n2, n3, n4, n5⟩ := nw
  refine SEQ_one o ⟨by omega, by omega, n1, n2, n3, n4⟩ (by omega) ⟨fun z => rfl, by omega, by omega, by omega, by omega, by omega, by omega⟩ (fun T C Z h z1 z2 z3 z4 e nx => ?_)
  obtain ⟨e0, e1, e2, e3, e4, e5, e6, e7⟩ := e
  have r0 : tH T n = h + (1) := e0
  have r1 : tM T n = m := e1
  have r2 : tL T n = Z 2 := e2
  have r4 : tG T n = Z 4 := e4
  have r5 : tB T n = Z 5 := e5
  have r6 : tD T n = Z 6 := e6
  exact ⟨fun _ => ⟨fun z => by omega, fun z => by omega, fun z => by omega, fun z => by omega, fun z => by omega, fun z => by omega, fun z => by omega, fun z => by omega, fun z => by omega, fun z => by omega, fun z => by omega, fun z => by omega, fun z => by omega, fun z => by omega, fun z => by omega, fun z => by omega⟩, fun _ => ⟨fun z => by omega, fun z => by omega, fun z => by omega, fun z => by omega, fun z => by omega, fun z => by omega, fun _ => ⟨by omega, NX_c nx (by omega) (by omega)⟩, fun z => by omega, fun z => by omega, fun z => by omega, fun z => by omega⟩, fun z => by omega, fun z => by omega⟩
theorem s11 (o : ONE a b n) (nw : NEWN w n 11) (hr : lo ≤ m ∧ m ≤ mm ∧ 2 ≤ X) : SEQ w SN 0 a b 2 1 m m lo mm X Y sh (fun i => i = n) := by
  obtain ⟨nk, n1, n2, n3, n4, n5⟩ := nw
  refine SEQ_one o ⟨by omega, by omega, n1, n2, n3, n4⟩ (by omega) ⟨fun z => rfl, by omega, by omega, by omega, by omega, by omega, by omega⟩ (fun T C Z h z1 z2 z3 z4 e nx => ?_)
  obtain ⟨e0, e1, e2, e3, e4, e5, e6, e7⟩ := e
  have r0 : tH T n = h + (2) := e0
  have r1 : tM T n = m := e1
  have r2 : tL T n = Z 2 := e2
  have r4 : tG T n = Z 4 := e4
  have r5 : tB T n = Z 5 := e5
  have r6 : tD T n = Z 6 := e6
  have g0 : tG T n = 0 := by rw [r4]; exact z3.1 rfl
  exact ⟨fun _ => ⟨fun _ => ⟨g0, by omega, NX_c nx (by omega) (by omega)⟩, fun z => by omega, fun z => by omega, fun z => by omega, fun z => by omega, fun z => by omega, fun z => by omega, fun z => by omega, fun z => by omega, fun z => by omega, fun z => by omega, fun z => by omega, fun z => by omega, fun z => by omega, fun z => by omega, fun z => by omega⟩, fun _ => ⟨fun z => by omega, fun z => by omega, fun z => by omega, fun z => by omega, fun z => by omega, fun z => by omega, fun z => by omega, fun z => by omega, fun z => by omega, fun z => by omega, fun z => by omega⟩, fun z => by omega, fun z => by omega⟩
theorem s12 (o : ONE a b n) (nw : NEWN w n 12) (hr : lo ≤ m ∧ m ≤ mm ∧ 1 ≤ X ∧ x ≤ X) (h26 : A w 26 n = x) (hx : x ≤ 6) (h27 : g ≠ 0 → A w 27 n = 1) : SEQ w SN g a b x 1 m m lo mm X Y sh (fun i => i = n) := by
  obtain ⟨nk, n1, n2, n3, n4, n5⟩ := nw
  refine SEQ_one o ⟨by omega, by omega, n1, n2, n3, n4⟩ (by omega) ⟨fun z => rfl, by omega, by omega, by omega, by omega, by omega, by omega⟩ (fun T C Z h z1 z2 z3 z4 e nx => ?_)
  obtain ⟨e0, e1, e2, e3, e4, e5, e6, e7⟩ := e
  have r0 : tH T n = h + (x) := e0
  have r1 : tM T n = m := e1
  have r2 : tL T n = Z 2 := e2
  have r4 : tG T n = Z 4 := e4
  have r5 : tB T n = Z 5 := e5
  have r6 : tD T n = Z 6 := e6
  exact ⟨fun _ => ⟨fun z => by omega, fun z => by omega, fun z => by omega, fun z => by omega, fun z => by omega, fun z => by omega, fun z => by omega, fun z => by omega, fun z => by omega, fun z => by omega, fun z => by omega, fun z => by omega, fun z => by omega, fun z => by omega, fun z => by omega, fun z => by omega⟩, fun y => absurd nk y, fun _ => ⟨⟨x, h26, hx, by omega, NX_c nx (by omega) (by omega)⟩, fun y => h27 (fun e => y (by rw [r4]; exact z3.1 e)), fun y => absurd n5 y⟩, fun z => by omega⟩
theorem s13 (o : ONE a b n) (nw : NEWN w n 13) (hr : lo ≤ m ∧ m ≤ mm ∧ 1 ≤ X ∧ x + 1 ≤ X) (h26 : A w 26 n = x) (hx : x ≤ 6) : SEQ w SN 0 a b (x + 1) 1 m m lo mm X Y sh (fun i => i = n) := by
  obtain ⟨nk, n1, n2, n3, n4, n5⟩ := nw
  refine SEQ_one o ⟨by omega, by omega, n1, n2, n3, n4⟩ (by omega) ⟨fun z => rfl, by omega, by omega, by omega, by omega, by omega, by omega⟩ (fun T C Z h z1 z2 z3 z4 e nx => ?_)
  obtain ⟨e0, e1, e2, e3, e4, e5, e6, e7⟩ := e
  have r0 : tH T n = h + ((x + 1)) := e0
  have r1 : tM T n = m := e1
  have r2 : tL T n = Z 2 := e2
  have r4 : tG T n = Z 4 := e4
  have r5 : tB T n = Z 5 := e5
  have r6 : tD T n = Z 6 := e6
  have g0 : tG T n = 0 := by rw [r4]; exact z3.1 rfl
  exact ⟨fun _ => ⟨fun z => by omega, fun _ => ⟨g0, ⟨x, h26, hx, by omega, NX_c nx (by omega) (by omega)⟩, fun y => absurd n5 y⟩, fun z => by omega, fun z => by omega, fun z => by omega, fun z => by omega, fun z => by omega, fun z => by omega, fun z => by omega, fun z => by omega, fun z => by omega, fun z => by omega, fun z => by omega, fun z => by omega, fun z => by omega, fun z => by omega⟩, fun _ => ⟨fun z => by omega, fun z => by omega, fun z => by omega, fun z => by omega, fun z => by omega, fun z => by omega, fun z => by omega, fun z => by omega, fun z => by omega, fun z => by omega, fun z => by omega⟩, fun z => by omega, fun z => by omega⟩
theorem s15 (o : ONE a b n) (nw : NEWN w n 15) (hr : lo ≤ m ∧ m ≤ mm ∧ 1 ≤ X) : SEQ w SN 0 a b 0 1 m m lo mm X Y sh (fun i => i = n) := by
  obtain ⟨nk, n1, n2, n3, n4, n5⟩ := nw
  refine SEQ_one o ⟨by omega, by omega, n1, n2, n3, n4⟩ (by omega) ⟨fun z => rfl, by omega, by omega, by omega, by omega, by omega, by omega⟩ (fun T C Z h z1 z2 z3 z4 e nx => ?_)
  obtain ⟨e0, e1, e2, e3, e4, e5, e6, e7⟩ := e
  have r0 : tH T n = h + (0) := e0
  have r1 : tM T n = m := e1
  have r2 : tL T n = Z 2 := e2
  have r4 : tG T n = Z 4 := e4
  have r5 : tB T n = Z 5 := e5
  have r6 : tD T n = Z 6 := e6
  have g0 : tG T n = 0 := by rw [r4]; exact z3.1 rfl
  exact ⟨fun y => absurd nk y, fun _ => ⟨fun z => by omega, fun z => by omega, fun z => by omega, fun z => by omega, fun z => by omega, fun z => by omega, fun z => by omega, fun z => by omega, fun z => by omega, fun z => by omega, fun z => by omega⟩, fun z => by omega, fun _ => ⟨g0, NX_c nx (by omega) (by omega)⟩⟩
theorem s16 (o : ONE a b n) (nw : NEWN w n 16) (hr : lo ≤ m ∧ m ≤ mm ∧ 1 ≤ X ∧ lo ≤ m2 ∧ m2 ≤ mm) (h25 : PAT w id id (b 2) SN sh m m2 (A w 25 n)) : SEQ w SN 0 a b 1 1 m m2 lo mm X Y sh (fun i => i = n) := by
  obtain ⟨nk, n1, n2, n3, n4, n5⟩ := nw
  refine SEQ_one o ⟨by omega, by omega, n1, n2, n3, n4⟩ (by omega) ⟨fun z => by omega, by omega, by omega, by omega, by omega, by omega, by omega⟩ (fun T C Z h z1 z2 z3 z4 e nx => ?_)
  obtain ⟨e0, e1, e2, e3, e4, e5, e6, e7⟩ := e
  have r0 : tH T n = h + (1) := e0
  have r1 : tM T n = m := e1
  have r2 : tL T n = Z 2 := e2
  have r4 : tG T n = Z 4 := e4
  have r5 : tB T n = Z 5 := e5
  have r6 : tD T n = Z 6 := e6
  have g0 : tG T n = 0 := by rw [r4]; exact z3.1 rfl
  exact ⟨fun _ => ⟨fun z => by omega, fun z => by omega, fun z => by omega, fun z => by omega, fun _ => ⟨g0, by omega, m2, by rw [r1, r2]; exact PAT_L h25 z2, NX_c nx (by omega) (by omega)⟩, fun z => by omega, fun z => by omega, fun z => by omega, fun z => by omega, fun z => by omega, fun z => by omega, fun z => by omega, fun z => by omega, fun z => by omega, fun z => by omega, fun z => by omega⟩, fun _ => ⟨fun z => by omega, fun z => by omega, fun z => by omega, fun z => by omega, fun z => by omega, fun z => by omega, fun z => by omega, fun z => by omega, fun z => by omega, fun z => by omega, fun z => by omega⟩, fun z => by omega, fun z => by omega⟩
theorem s17 (o : ONE a b n) (nw : NEWN w n 17) (hr : lo ≤ m ∧ m ≤ mm ∧ 1 ≤ X) : SEQ w SN 0 a b 1 0 m m lo mm X Y sh (fun i => i = n) := by
  obtain ⟨nk, n1, n2, n3, n4, n5⟩ := nw
  refine SEQ_one o ⟨by omega, by omega, n1, n2, n3, n4⟩ (by omega) ⟨fun z => rfl, by omega, by omega, by omega, by omega, by omega, by omega⟩ (fun T C Z h z1 z2 z3 z4 e nx => ?_)
  obtain ⟨e0, e1, e2, e3, e4, e5, e6, e7⟩ := e
  have r0 : tH T n = h + (1) := e0
  have r1 : tM T n = m := e1
  have r2 : tL T n = Z 2 := e2
  have r4 : tG T n = Z 4 := e4
  have r5 : tB T n = Z 5 := e5
  have r6 : tD T n = Z 6 := e6
  have g0 : tG T n = 0 := by rw [r4]; exact z3.1 rfl
  exact ⟨fun _ => ⟨fun z => by omega, fun z => by omega, fun z => by omega, fun z => by omega, fun z => by omega, fun _ => ⟨g0, by omega, NX_c nx (by omega) (by omega)⟩, fun z => by omega, fun z => by omega, fun z => by omega, fun z => by omega, fun z => by omega, fun z => by omega, fun z => by omega, fun z => by omega, fun z => by omega, fun z => by omega⟩, fun _ => ⟨fun z => by omega, fun z => by omega, fun z => by omega, fun z => by omega, fun z => by omega, fun z => by omega, fun z => by omega, fun z => by omega, fun z => by omega, fun z => by omega, fun z => by omega⟩, fun z => by omega, fun z => by omega⟩
theorem s18 (o : ONE a b n) (nw : NEWN w n 18) (hr : lo ≤ m ∧ m ≤ mm ∧ lo ≤ x ∧ x ≤ m) (h25 : A w 25 n = x) : SEQ w SN 0 a b 0 0 m x lo mm X Y sh (fun i => i = n) := by
  obtain ⟨nk, n1, n2, n3, n4, n5⟩ := nw
  refine SEQ_one o ⟨by omega, by omega, n1, n2, n3, n4⟩ (by omega) ⟨fun z => by omega, by omega, by omega, by omega, by omega, by omega, by omega⟩ (fun T C Z h z1 z2 z3 z4 e nx => ?_)
  obtain ⟨e0, e1, e2, e3, e4, e5, e6, e7⟩ := e
  have r0 : tH T n = h + (0) := e0
  have r1 : tM T n = m := e1
  have r2 : tL T n = Z 2 := e2
  have r4 : tG T n = Z 4 := e4
  have r5 : tB T n = Z 5 := e5
  have r6 : tD T n = Z 6 := e6
  have g0 : tG T n = 0 := by rw [r4]; exact z3.1 rfl
  exact ⟨fun _ => ⟨fun z => by omega, fun z => by omega, fun z => by omega, fun z => by omega, fun z => by omega, fun z => by omega, fun _ => ⟨g0, x, h25, by omega, by omega, NX_c nx (by omega) (by omega)⟩, fun z => by omega, fun z => by omega, fun z => by omega, fun z => by omega, fun z => by omega, fun z => by omega, fun z => by omega, fun z => by omega, fun z => by omega⟩, fun _ => ⟨fun z => by omega, fun z => by omega, fun z => by omega, fun z => by omega, fun z => by omega, fun z => by omega, fun z => by omega, fun z => by omega, fun z => by omega, fun z => by omega, fun z => by omega⟩, fun z => by omega, fun z => by omega⟩
theorem s22 (o : ONE a b n) (nw : NEWN w n 22) (hr : lo ≤ m ∧ m ≤ mm ∧ 1 ≤ X) : SEQ w SN 2 a b 1 0 m m lo mm X Y sh (fun i => i = n) := by
  obtain ⟨nk, n1, n2, n3, n4, n5⟩ := nw
  refine SEQ_one o ⟨by omega, by omega, n1, n2, n3, n4⟩ (by omega) ⟨fun z => rfl, by omega, by omega, by omega, by omega, by omega, by omega⟩ (fun T C Z h z1 z2 z3 z4 e nx => ?_)
  obtain ⟨e0, e1, e2, e3, e4, e5, e6, e7⟩ := e
  have r0 : tH T n = h + (1) := e0
  have r1 : tM T n = m := e1
  have r2 : tL T n = Z 2 := e2
  have r4 : tG T n = Z 4 := e4
  have r5 : tB T n = Z 5 := e5
  have r6 : tD T n = Z 6 := e6
  exact ⟨fun _ => ⟨fun z => by omega, fun z => by omega, fun z => by omega, fun z => by omega, fun z => by omega, fun z => by omega, fun z => by omega, fun z => by omega, fun z => by omega, fun z => by omega, fun z => by omega, fun z => by omega, fun z => by omega, fun z => by omega, fun z => by omega, fun z => by omega⟩, fun _ => ⟨fun z => by omega, fun z => by omega, fun z => by omega, fun z => by omega, fun z => by omega, fun z => by omega, fun z => by omega, fun z => by omega, fun z => by omega, fun _ => ⟨by rw [r4]; exact z3.2 rfl, by omega, NX_c nx (by omega) (by omega)⟩, fun z => by omega⟩, fun z => by omega, fun z => by omega⟩
end
end
