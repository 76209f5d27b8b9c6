section
variable {Fv : Int64 → Int64 → Prop} {P : Int64 → Prop} {u v w w2 : MS} {PR N p n n2 opM bnM bxM bx2 ND fr k tp mu CN PN SN UN FN rq q m h mm : Nat} {ow kd ow2 kd2 ro rn rh cb pc ct pM pE : Nat → Nat} {T : TY} {C : CY}
theorem goOnWith_ok (a : ATQ Fv P PR T ND p w fr ro rn rh cb pc ct q n ow kd bxM) (h109 : A w 109 p = 0) (h152 : F w 152 = 0) (cl : CLG w (sR T pc (fr - 1) + tR T q) 0 mu) (hp : PGM Fv P PR T C pM pE ND CN PN SN UN FN w) (hG : tG T q = 0) (h23 : A w 23 q = 27) (h111 : A w 31 q = -1 → w.2.2.2 111 p = -1) (h110 : 0 ≤ A w 110 p) (hE : F w 149 = F w 150 ∧ F w 151 = 0) (hN : 60000 ≤ N) : OK (fun w2 _ => RES Fv P PR T C ND CN p mu w w2) (fm_M_goOnWith N w (I q)) := by
  obtain ⟨i, h, a3, a4, a5, a6⟩ := a
  have x4 := MEI_p i
  have hf := h.1
  have nd := hp.1.1.1
  have hro := h.2.2.1 (fr - 1) (by omega)
  have b30 : bxM ≤ 30 := i.2.2.2.2.2.2.2.2.2.2.2.1.2
  have p108 : A w 108 p = ((bxM : Nat) : Int) := i.2.2.2.2.2.2.2.2.2.2.2.1.1
  obtain ⟨n1, n2, n3, n4, n5, n6, -⟩ := (hp.1.2.2.1 q a4).1
  have n7 : 0 < tK T q → tH T (tC T q) ≤ tB T q ∧ tM T (tC T q) ≤ tD T q := fun z => by
    obtain ⟨-, -, -, -, w5, w6, -⟩ := (hp.1.2.2.1 q a4).1.2.2.2.2.2.2.1 z
    exact ⟨w5, w6⟩
  have g27 := ((hp.1.2.2.1 q a4).2.1.2.2.2.2.2.2.2.2.2.2.2.1 h23).2.1
  obtain ⟨k0, hk0⟩ : ∃ k0 : Nat, A w 110 p = k0 := ⟨(A w 110 p).toNat, by omega⟩
  have r110 := A_r w 110 p
  have r25 := A_r w 25 q
  unfold fm_M_goOnWith fb_M_goOnWith_0
  rw [frame0_f (fr := fr) i hf.2.2 ⟨hf.1, hf.2.1⟩, bnd_so]
  refine ok_lt.mpr ?_
  rw [wi_e]
  have f1 : FR [159] [] [] [] w (wi w 159 q) := FR.wi FR.rf (by decide)
  have e1 : F (wi w 159 q) 159 = q := by rw [F_wi (by omega) (by omega), if_pos rfl]
  generalize wi w 159 q = w1 at *
  rw [I_F' (show F w1 133 = p by rw [FR.F f1 (by decide)]; exact i.2.2.1)]
  refine ok_ck.mpr ⟨inb_at (k := 110) (n := 24) rfl (by omega) (by omega) (by decide), ok_lt.mpr (ok_lt.mpr ?_)⟩
  rw [I_tn (x := (p : Int)) (by omega) (by omega), Int.toNat_natCast, I_A' (show A w1 110 p = k0 by rw [FR.A f1 (by decide)]; exact hk0), wi_e (k := 158), show (3 : Int32) = I 3 from rfl, wi_e (k := 153)]
  have f2 : FR [153, 158, 159] [] [] [] w (wi (wi w1 158 k0) 153 3) := FR.wi (FR.wi (FR.mo f1 (by decide) (by decide) (by decide) (by decide)) (by decide)) (by decide)
  have e28 : F (wi (wi w1 158 k0) 153 3) 158 = k0 := by rw [F_wi (by omega) (by omega), if_neg (by decide), F_wi (by omega) (by omega), if_pos rfl]
  have e23 : F (wi (wi w1 158 k0) 153 3) 153 = 3 := by rw [F_wi (by omega) (by omega), if_pos rfl]
  have e29 : F (wi (wi w1 158 k0) 153 3) 159 = q := by rw [F_wi (by omega) (by omega), if_neg (by decide), F_wi (by omega) (by omega), if_neg (by decide)]; exact e1
  generalize wi (wi w1 158 k0) 153 3 = w2 at *
  refine ok_ck.mpr ⟨inb_at (k := 25) (n := 16000) rfl (by omega) (by omega) (by decide), ok_lt.mpr ?_⟩
  rw [I_tn (x := (q : Int)) (by omega) (by omega), Int.toNat_natCast, I_A' (show A w2 25 q = A w 25 q from FR.A f2 (by decide)), wi_e (k := 155)]
  have f3 : FR [153, 155, 158, 159] [] [] [] w (wi w2 155 (A w 25 q)) := FR.wi (FR.mo f2 (by decide) (by decide) (by decide) (by decide)) (by decide)
  have e35 : F (wi w2 155 (A w 25 q)) 155 = A w 25 q := by rw [F_wi r25.1 r25.2, if_pos rfl]
  have e38 : F (wi w2 155 (A w 25 q)) 158 = k0 := by rw [F_wi r25.1 r25.2, if_neg (by decide)]; exact e28
  have e33 : F (wi w2 155 (A w 25 q)) 153 = 3 := by rw [F_wi r25.1 r25.2, if_neg (by decide)]; exact e23
  have e39 : F (wi w2 155 (A w 25 q)) 159 = q := by rw [F_wi r25.1 r25.2, if_neg (by decide)]; exact e29
  generalize wi w2 155 (A w 25 q) = w3 at *
  refine ok_ck.mpr ⟨inb_at (k := 99) (n := 1440) rfl (by omega) (by omega) (by decide), ok_ck.mpr ⟨inb_at (k := 101) (n := 1440) rfl (by omega) (by omega) (by decide), ok_ck.mpr ⟨inb_at (k := 27) (n := 16000) rfl (by omega) (by omega) (by decide), ok_lt.mpr ?_⟩⟩⟩
  rw [I_tn (x := ((60 * p + (fr - 1) : Nat) : Int)) (by omega) (by omega), Int.toNat_natCast, I_A' (show A w3 99 (60 * p + (fr - 1)) = ((rn (fr - 1) : Nat) : Int) by rw [FR.A f3 (by decide)]; exact hro.2.1), I_A' (show A w3 101 (60 * p + (fr - 1)) = ((rh (fr - 1) : Nat) : Int) by rw [FR.A f3 (by decide)]; exact hro.2.2.1), I_A' (show A w3 27 q = ((tM T q : Nat) : Int) by rw [FR.A f3 (by decide)]; exact g27), I_add, I_add, show ((rn (fr - 1) : Nat) : Int) + ((rh (fr - 1) : Nat) : Int) + ((tM T q : Nat) : Int) = ((rn (fr - 1) + rh (fr - 1) + tM T q : Nat) : Int) from by omega, wi_e (k := 156)]
  have f4 : FR [153, 155, 156, 158, 159] [] [] [] w (wi w3 156 ((rn (fr - 1) + rh (fr - 1) + tM T q : Nat) : Int)) := FR.wi (FR.mo f3 (by decide) (by decide) (by decide) (by decide)) (by decide)
  have e46 : F (wi w3 156 ((rn (fr - 1) + rh (fr - 1) + tM T q : Nat) : Int)) 156 = ((rn (fr - 1) + rh (fr - 1) + tM T q : Nat) : Int) := by rw [F_wi (by omega) (by omega), if_pos rfl]
  have e45 : F (wi w3 156 ((rn (fr - 1) + rh (fr - 1) + tM T q : Nat) : Int)) 155 = A w 25 q := by rw [F_wi (by omega) (by omega), if_neg (by decide)]; exact e35
  have e48 : F (wi w3 156 ((rn (fr - 1) + rh (fr - 1) + tM T q : Nat) : Int)) 158 = k0 := by rw [F_wi (by omega) (by omega), if_neg (by decide)]; exact e38
  have e43 : F (wi w3 156 ((rn (fr - 1) + rh (fr - 1) + tM T q : Nat) : Int)) 153 = 3 := by rw [F_wi (by omega) (by omega), if_neg (by decide)]; exact e33
  have e49 : F (wi w3 156 ((rn (fr - 1) + rh (fr - 1) + tM T q : Nat) : Int)) 159 = q := by rw [F_wi (by omega) (by omega), if_neg (by decide)]; exact e39
  generalize wi w3 156 ((rn (fr - 1) + rh (fr - 1) + tM T q : Nat) : Int) = w4 at *
  have i4 := MEI_ints i f4 (by decide)
  have back : ∀ x, RES Fv P PR T C ND CN p mu w4 x → RES Fv P PR T C ND CN p mu w x := fun x hx => RES.tr (FR.mo f4 (by decide) (by decide) (by decide) (by decide)) (OTF_fr f4 (by decide)) (fun z _ => FR.A f4 (by decide)) hx (Nat.le_refl _)
  have none : OK (fun w2 _ => RES Fv P PR T C ND CN p mu w w2) (fb_M_goOnWith_101 N () w4) := by
    unfold fb_M_goOnWith_101 fb_M_goOnWith_136
    rw [I_F' i4.2.2.1]
    refine ok_ck.mpr ⟨inb_at (k := 108) (n := 24) rfl (by omega) (by omega) (by decide), ok_ck.mpr ⟨inb_at (k := 110) (n := 24) rfl (by omega) (by omega) (by decide), ok_lt.mpr ?_⟩⟩
    rw [I_tn (x := (p : Int)) (by omega) (by omega), Int.toNat_natCast, I_A' (show A w4 108 p = ((bxM : Nat) : Int) by rw [FR.A f4 (by decide)]; exact p108), wa_e (k := 110)]
    have f5 : FR [153, 155, 156, 158, 159] [] [110] [] w (wa w4 110 p bxM) := FR.wa (FR.mo f4 (by decide) (by decide) (by decide) (by decide)) (by decide)
    have e5 : 0 ≤ A (wa w4 110 p bxM) 110 p := by rw [A_eq (by omega) (by omega), if_pos rfl]; omega
    have f45 : FR [] [] [110] [] w4 (wa w4 110 p bxM) := FR.wa FR.rf (by decide)
    have o5 : OTF p w (wa w4 110 p bxM) := OTF.tr (OTF_fr f4 (by decide)) (OTF_110 (by omega) (by omega))
    have e56 : F (wa w4 110 p bxM) 156 = ((rn (fr - 1) + rh (fr - 1) + tM T q : Nat) : Int) := e46
    have e59 : F (wa w4 110 p bxM) 159 = q := e49
    have i5 := MEI_fr i4 f45 (by decide) (by decide) (by decide) (by decide) (by decide) (by decide) (by decide) (by decide) (by decide) (by decide) (by decide) (by decide) (by decide) (by decide) (by decide) (by decide) (by decide) (by decide)
    generalize wa w4 110 p bxM = w5 at *
    rw [I_F' i5.2.2.1, I_F' e56]
    refine ok_ck.mpr ⟨inb_at (k := 94) (n := 24) rfl (by omega) (by omega) (by decide), ok_lt.mpr ?_⟩
    rw [I_tn (x := (p : Int)) (by omega) (by omega), Int.toNat_natCast, wa_e (k := 94)]
    have f6 : FR [153, 155, 156, 158, 159] [] [94, 110] [] w (wa w5 94 p ((rn (fr - 1) + rh (fr - 1) + tM T q : Nat) : Int)) := FR.wa (FR.mo f5 (by decide) (by decide) (by decide) (by decide)) (by decide)
    have f56 : FR [] [] [94] [] w5 (wa w5 94 p ((rn (fr - 1) + rh (fr - 1) + tM T q : Nat) : Int)) := FR.wa FR.rf (by decide)
    have o6 : OTF p w (wa w5 94 p ((rn (fr - 1) + rh (fr - 1) + tM T q : Nat) : Int)) := OTF.tr o5 (OTF_at f56 (i0 := p) (fun j hj => by rw [A_eq (by omega) (by omega), if_neg hj]) (Or.inl ⟨by decide, rfl⟩))
    have i6 := names_less i5 (k := rn (fr - 1) + rh (fr - 1) + tM T q) (Nat.le_refl _)
    generalize wa w5 94 p ((rn (fr - 1) + rh (fr - 1) + tM T q : Nat) : Int) = w6 at *
    have am := afterMessages_ok (N := N) (mu := mu) (q := q) (r := tR T q - 1) (C := C) (CN := CN) i6 (PRG_fr hp.1 f6 (by decide) (by decide)) (FRS_fr h f6 (by decide) (by decide) (by decide) (by decide) (by decide) (by decide) (by decide) (by decide) (by decide) (by decide)) (by rw [FR.F f56 (by decide)]; exact e59) a4 (by rw [FR.A f6 (by decide)]; exact h23) hG a5 (by rw [FR.A f6 (by decide)]; exact a6) (by rw [FR.A f6 (by decide)]; exact h109) (by rw [FR.F f6 (by decide)]; exact h152) (fun z => by rw [FR.A f6 (by decide)] at z; rw [f6.2.2.2 111 (by decide)]; exact h111 z) (by rw [FR.A f56 (by decide)]; exact e5) (by omega) (by obtain ⟨c1, c2, c3, c4⟩ := cl; unfold CLG; rw [FR.F f6 (by decide), FR.F f6 (by decide)]; exact ⟨c1, c2, c3, by omega⟩)
    exact ok_bnd.mpr (ok_mono am (fun x _ hx => ok_some.mpr (RES.tr (FR.mo f6 (by decide) (by decide) (by decide) (by decide)) o6 (fun z _ => FR.A f6 (by decide)) hx (Nat.le_refl _))))
  rw [I_F' i4.2.2.1]
  refine ok_ck.mpr ⟨inb_at (k := 108) (n := 24) rfl (by omega) (by omega) (by decide), ?_⟩
  rw [I_tn (x := (p : Int)) (by omega) (by omega), Int.toNat_natCast, I_A' (show A w4 108 p = ((bxM : Nat) : Int) by rw [FR.A f4 (by decide)]; exact p108), I_F' e48, I_F' e45, decI (by omega) (by omega) (by omega) (by omega), litm1q, decE r25.1 r25.2 (by omega) (by omega)]
  refine ok_br.mpr ⟨fun _ => none, fun z8 => ok_br.mpr ⟨fun _ => none, fun z5 => ok_lt.mpr ?_⟩⟩
  have hk8 : (k0 : Int) < bxM := by have := of_decide_eq_false z8; omega
  obtain ⟨r, hr, hc⟩ := ((hp.1.2.2.1 q a4).2.1.2.2.2.2.2.2.2.2.2.2.2.1 h23).2.2.1.resolve_left (of_decide_eq_false z5)
  have hcc := hc
  obtain ⟨c, d1, d2, d3, d4, d5, d6, d7, d8, d9, d10⟩ := hcc
  have cwd := (hp.1.2.2.2.1 c d2).2.1
  have cn := hp.1.1.2.1
  rw [d1, wi_e (k := 154)]
  have f5 : FR [153, 154, 155, 156, 158, 159] [] [] [] w (wi w4 154 c) := FR.wi (FR.mo f4 (by decide) (by decide) (by decide) (by decide)) (by decide)
  have e54 : F (wi w4 154 c) 154 = c := by rw [F_wi (by omega) (by omega), if_pos rfl]
  have e56 : F (wi w4 154 c) 156 = ((rn (fr - 1) + rh (fr - 1) + tM T q : Nat) : Int) := by rw [F_wi (by omega) (by omega), if_neg (by decide)]; exact e46
  have e55 : F (wi w4 154 c) 155 = c := by rw [F_wi (by omega) (by omega), if_neg (by decide), e45, d1]
  have e58 : F (wi w4 154 c) 158 = k0 := by rw [F_wi (by omega) (by omega), if_neg (by decide)]; exact e48
  have e53 : F (wi w4 154 c) 153 = 3 := by rw [F_wi (by omega) (by omega), if_neg (by decide)]; exact e43
  have e59 : F (wi w4 154 c) 159 = q := by rw [F_wi (by omega) (by omega), if_neg (by decide)]; exact e49
  generalize wi w4 154 c = w5 at *
  have i5 := MEI_ints i f5 (by decide)
  rw [← a5] at hc
  have cls : CLS C w5 CN 1 (tH T q) (tH T q) (tM T q) (rh (fr - 1)) (tK T q) (tC T q) r ((c : Nat) : Int) := by
    obtain ⟨c', b1, b2, b3, b4⟩ := hc
    exact ⟨c', by rw [← d1]; exact b1, b2, by rw [FR.A f5 (by decide)]; exact b3, b4⟩
  have ctp := fun hk => cls_tp (fr := fr) (rh := rh) (PRG_fr hp.1 f5 (by decide) (by decide)) cls hk
  have tr : TRS w5 T C ND CN p (ro (fr - 1)) (rn (fr - 1)) (rh (fr - 1)) (tK T q) (tC T q) 3 1 (tH T q) (tH T q) (tM T q) r bxM := ⟨⟨e53, by omega, by rw [if_neg (by omega), if_neg (by omega)]; rfl, fun _ => rfl, fun z => by omega, by omega, n3, n1, by omega, by omega⟩, e56, Or.inr (by rw [e54]; exact cls), fun _ => ⟨by rw [e55]; exact cls, by omega, by omega, q, e59, a4, by rw [FR.A f5 (by decide)]; exact h23, rfl, rfl, a5.symm, rfl, rfl, hG, hr, fun y => by rw [FR.A f5 (by decide)] at y; rw [f5.2.2.2 111 (by decide)]; exact h111 y⟩, fun z => ⟨by have := n7 z; omega, by have := n7 z; omega, ctp z⟩, by rw [FR.F f5 (by decide), FR.F f5 (by decide), FR.F f5 (by decide)]; exact hE⟩
  clear ctp
  unfold fr_M_choose fb_M_goOnWith_136
  rw [show (20 : Nat) = 19 + 1 from rfl, rc_s]
  refine ok_bnd.mpr (ok_mono (choose_ok (N := N) (d := 16) (mu := mu) (ctt := 16002) (PGM_fr hp f5 (by decide) (by decide)) (FRS_fr h f5 (by decide) (by decide) (by decide) (by decide) (by decide) (by decide) (by decide) (by decide) (by decide) (by decide)) (by rw [FR.A f5 (by decide)]; exact a6) (by rw [FR.A f5 (by decide)]; exact h109) (by rw [FR.F f5 (by decide)]; exact h152) i5 (Nat.le_refl _) tr (by omega) (fun c' hc' => ?_) ?_ hN) (fun x _ hx => ok_some.mpr (RES.tr (FR.mo f5 (by decide) (by decide) (by decide) (by decide)) (OTF_fr f5 (by decide)) (fun z _ => FR.A f5 (by decide)) hx (Nat.le_refl _))))
  · have : c' = c := by omega
    subst this
    omega
  · obtain ⟨c1, c2, c3, c4⟩ := cl
    unfold CLG
    rw [FR.F f5 (by decide), FR.F f5 (by decide), if_pos rfl, e58]
    exact ⟨c1, c2, c3, by omega⟩
end
