section
section
variable {Fv : Int64 → Int64 → Prop} {P : Int64 → Prop} {u v w w2 : MS} {PR N p n n2 opM bnM bxM bx2 ND fr k tp mu CN PN SN UN FN rq q m h mm : Nat} {ow kd ow2 kd2 ro rn rh cb pc ct pM pE : Nat → Nat} {T : TY} {C : CY}
theorem goOnWith_ok (a : ATQ Fv P PR T ND p w fr ro rn rh cb pc ct q n ow kd bxM) (h109 : A w 109 p = 0) (h152 : F w 152 = 0) (cl : CLG w (sR T pc (fr - 1) + tR T q) 0 mu) (hp : PGM Fv P PR T C pM pE ND CN PN SN UN FN w) (hG : tG T q = 0) (h23 : A w 23 q = 27) (h111 : A w 31 q = -1 → w.2.2.2 111 p = -1) (h110 : 0 ≤ A w 110 p) (hE : F w 149 = F w 150 ∧ F w 151 = 0) (hN : 60000 ≤ N) : OK (fun w2 _ => RES Fv P PR T C ND CN p mu w w2) (fm_M_goOnWith N w (I q)) := by
  obtain ⟨i, h, a3, a4, a5, a6⟩ := a
  have x4 := MEI_p i
  have hf := h.1
  have nd := hp.1.1.1
  have hro := h.2.2.1 (fr - 1) (by omega)
  have b30 : bxM ≤ 30 := i.2.2.2.2.2.2.2.2.2.2.2.1.2
  have p108 : A w 108 p = ((bxM : Nat) : Int) := i.2.2.2.2.2.2.2.2.2.2.2.1.1
  obtain ⟨n1, n2, n3, n4, n5, n6, -⟩ := (hp.1.2.2.1 q a4).1
  have n7 : 0 < tK T q → tH T (tC T q) ≤ tB T q ∧ tM T (tC T q) ≤ tD T q := fun z => by
    obtain ⟨-, -, -, -, w5, w6, -⟩ := (hp.1.2.2.1 q a4).1.2.2.2.2.2.2.1 z
    exact ⟨w5, w6⟩
  have g27 := ((hp.1.2.2.1 q a4).2.1.2.2.2.2.2.2.2.2.2.2.2.1 h23).2.1
  obtain ⟨k0, hk0⟩ : ∃ k0 : Nat, A w 110 p = k0 := ⟨(A w 110 p).toNat, by omega⟩
  have r110 := A_r w 110 p
  have r25 := A_r w 25 q
  unfold fm_M_goOnWith fb_M_goOnWith_0
  rw [frame0_f (fr := fr) i hf.2.2 ⟨hf.1, hf.2.1⟩, bnd_so]
  refine ok_lt.mpr ?_
  rw [wi_e]
  have f1 : FR [159] [] [] [] w (wi w 159 q) := FR.wi FR.rf (by decide)
  have e1 : F (wi w 159 q) 159 = q := by rw [F_wi (by omega) (by omega), if_pos rfl]
  generalize wi w 159 q = w1 at *
  rw [I_F' (show F w1 133 = p by rw [FR.F f1 (by decide)]; exact i.2.2.1)]
  refine ok_ck.mpr ⟨inb_at (k := 110) (n := 24) rfl (by omega) (by omega) (by decide), ok_lt.mpr (ok_lt.mpr ?_)⟩
  rw [I_tn (x := (p : Int)) (by omega) (by omega), Int.toNat_natCast, I_A' (show A w1 110 p = k0 by rw [FR.A f1 (by decide)]; exact hk0), wi_e (k := 158), show (3 : Int32) = I 3 from rfl, wi_e (k := 153)]
  have f2 : FR [153, 158, 159] [] [] [] w (wi (wi w1 158 k0) 153 3) := FR.wi (FR.wi (FR.mo f1 (by decide) (by decide) (by decide) (by decide)) (by decide)) (by decide)
  have e28 : F (wi (wi w1 158 k0) 153 3) 158 = k0 := by rw [F_wi (by omega) (by omega), if_neg (by decide), F_wi (by omega) (by omega), if_pos rfl]
  have e23 : F (wi (wi w1 158 k0) 153 3) 153 = 3 := by rw [F_wi (by omega) (by omega), if_pos rfl]
  have e29 : F (wi (wi w1 158 k0) 153 3) 159 = q := by rw [F_wi (by omega) (by omega), if_neg (by decide), F_wi (by omega) (by omega), if_neg (by decide)]; exact e1
  generalize wi (wi w1 158 k0) 153 3 = w2 at *
  refine ok_ck.mpr ⟨inb_at (k := 25) (n := 16000) rfl (by omega) (by omega) (by decide), ok_lt.mpr ?_⟩
  rw [I_tn (x := (q : Int)) (by omega) (by omega), Int.toNat_natCast, I_A' (show A w2 25 q = A w 25 q from FR.A f2 (by decide)), wi_e (k := 155)]
  have f3 : FR [153, 155, 158, 159] [] [] [] w (wi w2 155 (A w 25 q)) := FR.wi (FR.mo f2 (by decide) (by decide) (by decide) (by decide)) (by decide)
  have e35 : F (wi w2 155 (A w 25 q)) 155 = A w 25 q := by rw [F_wi r25.1 r25.2, if_pos rfl]
  have e38 : F (wi w2 155 (A w 25 q)) 158 = k0 := by rw [F_wi r25.1 r25.2, if_neg (by decide)]; exact e28
  have e33 : F (wi w2 155 (A w 25 q)) 153 = 3 := by rw [F_wi r25.1 r25.2, if_neg (by decide)]; exact e23
  have e39 : F (wi w2 155 (A w 25 q)) 159 = q := by rw [F_wi r25.1 r25.2, if_neg (by decide)]; exact e29
  generalize wi w2 155 (A w 25 q) = w3 at *
  refine ok_ck.mpr ⟨inb_at (k := 99) (n := 1440) rfl (by omega) (by omega) (by decide), ok_ck.mpr ⟨inb_at (k := 101) (n := 1440) rfl (by omega) (by omega) (by decide), ok_ck.mpr ⟨inb_at (k := 27) (n := 16000) rfl (by omega) (by omega) (by decide), ok_lt.mpr ?_⟩⟩⟩
  rw [I_tn (x := ((60 * p + (fr - 1) : Nat) : Int)) (by omega) (by omega), Int.toNat_natCast, I_A' (show A w3 99 (60 * p + (fr - 1)) = ((rn (fr - 1) : Nat) : Int) by rw [FR.A f3 (by decide)]; exact hro.2.1), I_A' (show A w3 101 (60 * p + (fr - 1)) = ((rh (fr - 1) : Nat) : Int) by rw [FR.A f3 (by decide)]; exact hro.2.2.1), I_A' (show A w3 27 q = ((tM T q : Nat) : Int) by rw [FR.A f3 (by decide)]; exact g27), I_add, I_add, show ((rn (fr - 1) : Nat) : Int) + ((rh (fr - 1) : Nat) : Int) + ((tM T q : Nat) : Int) = ((rn (fr - 1) + rh (fr - 1) + tM T q : Nat) : Int) from by omega, wi_e (k := 156)]
  have f4 : FR [153, 155, 156, 158, 159] [] [] [] w (wi w3 156 ((rn (fr - 1) + rh (fr - 1) + tM T q : Nat) : Int)) := FR.wi (FR.mo f3 (by decide) (by decide) (by decide) (by decide)) (by decide)
  have e46 : F (wi w3 156 ((rn (fr - 1) + rh (fr - 1) + tM T q : Nat) : Int)) 156 = ((rn (fr - 1) + rh (fr - 1) + tM T q : Nat) : Int) := by rw [F_wi (by omega) (by omega), if_pos rfl]
  have e45 : F (wi w3 156 ((rn (fr - 1) + rh (fr - 1) + tM T q : Nat) : Int)) 155 = A w 25 q := by rw [F_wi (by omega) (by omega), if_neg (by decide)]; exact e35
  have e48 : F (wi w3 156 ((rn (fr - 1) + rh (fr - 1) + tM T q : Nat) : Int)) 158 = k0 := by rw [F_wi (by omega) (by omega), if_neg (by decide)]; exact e38
  have e43 : F (wi w3 156 ((rn (fr - 1) + rh (fr - 1) + tM T q : Nat) : Int)) 153 = 3 := by rw [F_wi (by omega) (by omega), if_neg (by decide)]; exact e33
  have e49 : F (wi w3 156 ((rn (fr - 1) + rh (fr - 1) + tM T q : Nat) : Int)) 159 = q := by rw [F_wi (by omega) (by omega), if_neg (by decide)]; exact e39
  generalize wi w3 156 ((rn (fr - 1) + rh (fr - 1) + tM T q : Nat) : Int) = w4 at *
  have i4 := MEI_ints i f4 (by decide)
  have back : ∀ x, RES Fv P PR T C ND CN p mu w4 x → RES Fv P PR T C ND CN p mu w x := fun x hx => RES.tr (FR.mo f4 (by decide) (by decide) (by decide) (by decide)) (OTF_fr f4 (by decide)) (fun z _ => FR.A f4 (by decide)) hx (Nat.le_refl _)
  have none : OK (fun w2 _ => RES Fv P PR T C ND CN p mu w w2) (fb_M_goOnWith_101 N () w4) := by
    unfold fb_M_goOnWith_101 fb_M_goOnWith_136
    rw [I_F' i4.2.2.1]
    refine ok_ck.mpr ⟨inb_at (k := 108) (n := 24) rfl (by omega) (by omega) (by decide), ok_ck.mpr ⟨inb_at (k := 110) (n := 24) rfl (by omega) (by omega) (by decide), ok_lt.mpr ?_⟩⟩
    rw [I_tn (x := (p : Int)) (by omega) (by omega), Int.toNat_natCast, I_A' (show A w4 108 p = ((bxM : Nat) : Int) by rw [FR.A f4 (by decide)]; exact p108), wa_e (k := 110)]
    have f5 : FR [153, 155, 156, 158, 159] [] [110] [] w (wa w4 110 p bxM) := FR.wa (FR.mo f4 (by decide) (by decide) (by decide) (by decide)) (by decide)
    have e5 : 0 ≤ A (wa w4 110 p bxM) 110 p := by rw [A_eq (by omega) (by omega), if_pos rfl]; omega
    have f45 : FR [] [] [110] [] w4 (wa w4 110 p bxM) := FR.wa FR.rf (by decide)
    have o5 : OTF p w (wa w4 110 p bxM) := OTF.tr (OTF_fr f4 (by decide)) (OTF_110 (by omega) (by omega))
    have e56 : F (wa w4 110 p bxM) 156 = ((rn (fr - 1) + rh (fr - 1) + tM T q : Nat) : Int) := e46
    have e59 : F (wa w4 110 p bxM) 159 = q := e49
    have i5 := MEI_fr i4 f45 (by decide) (by decide) (by decide) (by decide) (by decide) (by decide) (by decide) (by decide) (by decide) (by decide) (by decide) (by decide) (by decide) (by decide) (by decide) (by decide) (by decide) (by decide)
    generalize wa w4 110 p bxM = w5 at *
    rw [I_F' i5.2.2.1, I_F' e56]
    refine ok_ck.mpr ⟨inb_at (k := 94) (n := 24) rfl (by omega) (by omega) (by decide), ok_lt.mpr ?_⟩
    rw [I_tn (x := (p : Int)) (by omega) (by omega), Int.toNat_natCast, wa_e (k := 94)]
    have f6 : FR [153, 155, 156, 158, 159] [] [94, 110] [] w (wa w5 94 p ((rn (fr - 1) + rh (fr - 1) + tM T q : Nat) : Int)) := FR.wa (FR.mo f5 (by decide) (by decide) (by decide) (by decide)) (by decide)
    have f56 : FR [] [] [94] [] w5 (wa w5 94 p ((rn (fr - 1) + rh (fr - 1) + tM T q : Nat) : Int)) := FR.wa FR.rf (by decide)
    have o6 : OTF p w (wa w5 94 p ((rn (fr - 1) + rh (fr - 1) + tM T q : Nat) : Int)) := OTF.tr o5 (OTF_at f56 (i0 := p) (fun j hj => by rw [A_eq (by omega) (by omega), if_neg hj]) (Or.inl ⟨by decide, rfl⟩))
    have i6 := names_less i5 (k := rn (fr - 1) + rh (fr - 1) + tM T q) (Nat.le_refl _)
    generalize wa w5 94 p ((rn (fr - 1) + rh (fr - 1) + tM T q : Nat) : Int) = w6 at *
    have am := afterMessages_ok (N := N) (mu := mu) (q := q) (r := tR T q - 1) (C := C) (CN := CN) i6 (PRG_fr hp.1 f6 (by decide) (by decide)) (FRS_fr h f6 (by decide) (by decide) (by decide) (by decide) (by decide) (by decide) (by decide) (by decide) (by decide) (by decide)) (by rw [FR.F f56 (by decide)]; exact e59) a4 (by rw [FR.A f6 (by decide)]; exact h23) hG a5 (by rw [FR.A f6 (by decide)]; exact a6) (by rw [FR.A f6 (by decide)]; exact h109) (by rw [FR.F f6 (by decide)]; exact h152) (fun z => by rw [FR.A f6 (by decide)] at z; rw [f6.2.2.2 111 (by decide)]; exact h111 z) (by rw [FR.A f56 (by decide)]; exact e5) (by omega) (by obtain ⟨c1, c2, c3, c4⟩ := cl; unfold CLG; rw [FR.F f6 (by decide), FR.F f6 (by decide)]; exact ⟨c1, c2, c3, by omega⟩)
    exact ok_bnd.mpr (ok_mono am (fun x _ hx => ok_some.mpr (RES.tr (FR.mo f6 (by decide) (by decide) (by decide) (by decide)) o6 (fun z _ => FR.A f6 (by decide)) hx (Nat.le_refl _))))
  rw [I_F' i4.2.2.1]
  refine ok_ck.mpr ⟨inb_at (k := 108) (n := 24) rfl (by omega) (by omega) (by decide), ?_⟩
  rw [I_tn (x := (p : Int)) (by omega) (by omega), Int.toNat_natCast, I_A' (show A w4 108 p = ((bxM : Nat) : Int) by rw [FR.A f4 (by decide)]; exact p108), I_F' e48, I_F' e45, decI (by omega) (by omega) (by omega) (by omega), litm1q, decE r25.1 r25.2 (by omega) (by omega)]
  refine ok_br.mpr ⟨fun _ => none, fun z8 => ok_br.mpr ⟨fun _ => none, fun z5 => ok_lt.mpr ?_⟩⟩
  have hk8 : (k0 : Int) < bxM := by have := of_decide_eq_false z8; omega
  obtain ⟨r, hr, hc⟩ := ((hp.1.2.2.1 q a4).2.1.2.2.2.2.2.2.2.2.2.2.2.1 h23).2.2.1.resolve_left (of_decide_eq_false z5)
  have hcc := hc
  obtain ⟨c, d1, d2, d3, d4, d5, d6, d7, d8, d9, d10⟩ := hcc
  have cwd := (hp.1.2.2.2.1 c d2).2.1
  have cn := hp.1.1.2.1
  rw [d1, wi_e (k := 154)]
  have f5 : FR [153, 154, 155, 156, 158, 159] [] [] [] w (wi w4 154 c) := FR.wi (FR.mo f4 (by decide) (by decide) (by decide) (by decide)) (by decide)
  have e54 : F (wi w4 154 c) 154 = c := by rw [F_wi (by omega) (by omega), if_pos rfl]
  have e56 : F (wi w4 154 c) 156 = ((rn (fr - 1) + rh (fr - 1) + tM T q : Nat) : Int) := by rw [F_wi (by omega) (by omega), if_neg (by decide)]; exact e46
  have e55 : F (wi w4 154 c) 155 = c := by rw [F_wi (by omega) (by omega), if_neg (by decide), e45, d1]
  have e58 : F (wi w4 154 c) 158 = k0 := by rw [F_wi (by omega) (by omega), if_neg (by decide)]; exact e48
  have e53 : F (wi w4 154 c) 153 = 3 := by rw [F_wi (by omega) (by omega), if_neg (by decide)]; exact e43
  have e59 : F (wi w4 154 c) 159 = q := by rw [F_wi (by omega) (by omega), if_neg (by decide)]; exact e49
  generalize wi w4 154 c = w5 at *
  have i5 := MEI_ints i f5 (by decide)
  rw [← a5] at hc
  have cls : CLS C w5 CN 1 (tH T q) (tH T q) (tM T q) (rh (fr - 1)) (tK T q) (tC T q) r ((c : Nat) : Int) := by
    obtain ⟨c', b1, b2, b3, b4⟩ := hc
    exact ⟨c', by rw [← d1]; exact b1, b2, by rw [FR.A f5 (by decide)]; exact b3, b4⟩
  have ctp := fun hk => cls_tp (fr := fr) (rh := rh) (PRG_fr hp.1 f5 (by decide) (by decide)) cls hk
  have tr : TRS w5 T C ND CN p (ro (fr - 1)) (rn (fr - 1)) (rh (fr - 1)) (tK T q) (tC T q) 3 1 (tH T q) (tH T q) (tM T q) r bxM := ⟨⟨e53, by omega, by rw [if_neg (by omega), if_neg (by omega)]; rfl, fun _ => rfl, fun z => by omega, by omega, n3, n1, by omega, by omega⟩, e56, Or.inr (by rw [e54]; exact cls), fun _ => ⟨by rw [e55]; exact cls, by omega, by omega, q, e59, a4, by rw [FR.A f5 (by decide)]; exact h23, rfl, rfl, a5.symm, rfl, rfl, hG, hr, fun y => by rw [FR.A f5 (by decide)] at y; rw [f5.2.2.2 111 (by decide)]; exact h111 y⟩, fun z => ⟨by have := n7 z; omega, by have := n7 z; omega, ctp z⟩, by rw [FR.F f5 (by decide), FR.F f5 (by decide), FR.F f5 (by decide)]; exact hE⟩
  clear ctp
  unfold fr_M_choose fb_M_goOnWith_136
  rw [show (20 : Nat) = 19 + 1 from rfl, rc_s]
  refine ok_bnd.mpr (ok_mono (choose_ok (N := N) (d := 16) (mu := mu) (ctt := 16002) (PGM_fr hp f5 (by decide) (by decide)) (FRS_fr h f5 (by decide) (by decide) (by decide) (by decide) (by decide) (by decide) (by decide) (by decide) (by decide) (by decide)) (by rw [FR.A f5 (by decide)]; exact a6) (by rw [FR.A f5 (by decide)]; exact h109) (by rw [FR.F f5 (by decide)]; exact h152) i5 (Nat.le_refl _) tr (by omega) (fun c' hc' => ?_) ?_ hN) (fun x _ hx => ok_some.mpr (RES.tr (FR.mo f5 (by decide) (by decide) (by decide) (by decide)) (OTF_fr f5 (by decide)) (fun z _ => FR.A f5 (by decide)) hx (Nat.le_refl _))))
  · have : c' = c := by omega
    subst this
    omega
  · obtain ⟨c1, c2, c3, c4⟩ := cl
    unfold CLG
    rw [FR.F f5 (by decide), FR.F f5 (by decide), if_pos rfl, e58]
    exact ⟨c1, c2, c3, by omega⟩
end
end
section
section
variable {Fv : Int64 → Int64 → Prop} {P : Int64 → Prop} {u v w w2 : MS} {PR N p n n2 opM bnM bxM bx2 ND fr k tp mu CN PN SN UN FN rq q m h mm : Nat} {ow kd ow2 kd2 ro rn rh cb pc ct pM pE : Nat → Nat} {T : TY} {C : CY}
theorem next0 {is ls as js : List Nat} (e : ERX Fv P PR T C ND CN p u fr ro rn rh cb pc ct q n ow kd opM bnM bxM mu) (hG : tG T q = 0) (hm : m < ND) (h3 : tL T m = tL T q) (h4 : tG T m = 0) (h5 : tR T m < tR T q) (f : FR is ls as js u v) (hi : ∀ k, k ∈ [152, 164, 165] → k ∉ is) (h98 : A v 98 (60 * p + (fr - 1)) = ((m : Nat) : Int)) (h109 : A v 109 p = 0) (i : MEI Fv P PR v p n2 ow2 kd2 (ro (fr - 1) + tH T m) (rn (fr - 1) + rh (fr - 1) + tM T m) bx2) {ct2 : Nat → Nat} (hf : FRS v T ND p fr ro rn rh cb pc ct2 (tK T m) (tC T m)) (h106 : A v 106 p = ((cb (fr - 1) + tK T m : Nat) : Int)) : ∃ m2, m2 < mu ∧ STE Fv P PR T C ND CN p m2 v := by
  obtain ⟨-, -, e3, e4, -, -, -, -, e9⟩ := e
  obtain ⟨y2, y3⟩ : F u 152 = 0 ∧ CLG u (sR T pc (fr - 1) + tR T q) 0 mu := by
    rcases e9 with ⟨-, y⟩ | ⟨-, c, s, many, hg', hb', mm', r, t1, t2, -⟩
    · exact y
    · omega
  obtain ⟨c1, c2, c3, c4⟩ := y3
  refine ⟨mu - 1, by omega, fr, ro, rn, rh, cb, pc, ct2, m, n2, ow2, kd2, bx2, ⟨i, hf, h98, hm, by rw [h3]; exact e4, h106⟩, h109, Or.inl ⟨h4, by rw [FR.F f (hi _ (by decide))]; exact y2, ?_⟩⟩
  unfold CLG
  rw [FR.F f (hi _ (by decide)), FR.F f (hi _ (by decide))]
  exact ⟨c1, c2, c3, by omega⟩
theorem i28 {c a : Nat} (e : ERX Fv P PR T C ND CN p u fr ro rn rh cb pc ct q n ow kd (ro (fr - 1) + tH T q) (rn (fr - 1) + rh (fr - 1) + tM T q) bxM mu) (hp : PGM Fv P PR T C pM pE ND CN PN SN UN FN u) (hG : tG T q = 0) (hq : tB T q + 1 ≤ tH T q) (h27 : A u 27 q = c) (hcD : tD T q ≤ c) (hc : c ≤ tM T q) (ha : A u 25 q = a) (hm : a < ND) (hx : NX T q a (tH T q - 1) c) (hN : 60000 ≤ N) : OK (fun v _ => RES Fv P PR T C ND CN p mu u v) (fm_M_afterRun N u (I q)) := by
  have e' := e
  rw [show ro (fr - 1) + tH T q = ro (fr - 1) + (tH T q - 1) + 1 from by omega] at e'
  have q1 := e.2.2.1
  have nd := hp.1.1.1
  have hrn := (e.2.1.2.2.1 (fr - 1) (by have := e.2.1.1; omega))
  have hf := e.2.1.1
  have hMM := (hp.1.2.2.1 q q1).1.2.1
  unfold fm_M_afterRun fb_M_afterRun_0 fb_M_afterRun_23
  refine ok_bnd.mpr (ok_mono (takeE (N := N) e' (by omega)) (fun v r hv => ?_))
  obtain ⟨v1, v2, v3, v4⟩ := hv
  have x4 := MEI_p v1.1
  have back : ∀ x, RES Fv P PR T C ND CN p mu v x → RES Fv P PR T C ND CN p mu u x := fun x hx => RES.tr (FR.mo v3 (by decide) (by decide) (by decide) (by decide)) v4 (fun z _ => FR.A v3 (by decide)) hx (Nat.le_refl _)
  have t49 : ∀ y : Int32, OK (fun x _ => RES Fv P PR T C ND CN p mu u x) (fb_M_afterRun_49 N () v (I q) r y) := fun y => by
    unfold fb_M_afterRun_49
    refine ok_ck.mpr ⟨inb_at (k := 27) (n := 16000) rfl (by omega) (by omega) (by decide), ?_⟩
    rw [I_tn (x := (q : Int)) (by omega) (by omega), Int.toNat_natCast, I_A' (show A v 27 q = c by rw [FR.A v3 (by decide)]; exact h27)]
    refine ok_bnd.mpr (ok_mono (namesTo_ok (N := N) (a := c) v1 (by omega)) (fun x _ hx' => ?_))
    obtain ⟨-, x2, x3, x4'⟩ := hx'
    have r0 : ∀ t : Int64, OK (fun x _ => RES Fv P PR T C ND CN p mu u x) (fb_M_afterRun_89 N () x (I q) 111 (I p) t) := fun t => by
      obtain ⟨k1, k2, k3, k4, k5, k6, k7, k8, k9⟩ := id v1
      have fx : FR [] [] [92, 94] [] u x := FR.tr (FR.mo v3 (by decide) (by decide) (by decide) (by decide)) (FR.mo x3 (by decide) (by decide) (by decide) (by decide))
      obtain ⟨n1, n2, n3, n4, n5, n6, n7, n8, n9⟩ := id hx
      unfold fb_M_afterRun_89
      refine ok_ck.mpr ⟨rfl, ok_ck.mpr ⟨inb_at (k := 111) (n := 24) rfl (by omega) (by omega) (by decide), ok_lt.mpr ?_⟩⟩
      rw [I_tn (x := (p : Int)) (by omega) (by omega), Int.toNat_natCast, wj_e]
      have f1 : FR [] [] [] [111] x (wj x 111 p t) := FR.wj FR.rf (by decide)
      have i1 := MEI_fr x2 f1 (by decide) (by decide) (by decide) (by decide) (by decide) (by decide) (by decide) (by decide) (by decide) (by decide) (by decide) (by decide) (by decide) (by decide) (by decide) (by decide) (by decide) (by decide)
      have o1 : OTF p x (wj x 111 p t) := OTF_111
      generalize wj x 111 p t = w1 at *
      have f2 : FR [] [] [92, 94] [111] u w1 := FR.tr (FR.mo fx (by decide) (by decide) (by decide) (by decide)) (FR.mo f1 (by decide) (by decide) (by decide) (by decide))
      refine ok_ck.mpr ⟨inb_at (k := 25) (n := 16000) rfl (by omega) (by omega) (by decide), ?_⟩
      rw [I_tn (x := (q : Int)) (by omega) (by omega), Int.toNat_natCast, I_A' (show A w1 25 q = a by rw [FR.A f2 (by decide)]; exact ha)]
      refine ok_bnd.mpr (ok_mono (at_ok (N := N) (q := a) (fr := fr) (ro := ro) (rn := rn) (rh := rh) (cb := cb) (pc := pc) (ct := ct) (by rw [n1, n2]; exact i1) (by rw [n4, n8]; exact FRS_fr e.2.1 f2 (by decide) (by decide) (by decide) (by decide) (by decide) (by decide) (by decide) (by decide) (by decide) (by decide)) hm nd (by rw [n3]; exact e.2.2.2.1) (by rw [FR.A f2 (by decide), n4]; exact e.2.2.2.2.1)) (fun y _ hy => ok_some.mpr ?_))
      obtain ⟨y1, y2, y3⟩ := hy
      have fy : FR [] [] [92, 94, 98] [111] u y := FR.tr (FR.mo f2 (by decide) (by decide) (by decide) (by decide)) (FR.mo y2 (by decide) (by decide) (by decide) (by decide))
      obtain ⟨w1', w2', w3', w4', w5', w6'⟩ := y1
      exact ⟨Or.inr (Or.inr (next0 e hG hm n3 (by rw [n5]; exact hG) n9 fy (by decide) w3' (by rw [FR.A fy (by decide)]; exact e.2.2.2.2.2.1) w1' w2' w6')), Or.inl (FR.mo fy (by decide) (by decide) (by decide) (by decide)), OTF.tr (OTF.tr v4 x4') (OTF.tr o1 y3), fun z _ => FR.A fy (by decide)⟩
    rw [I_F' x2.2.2.1]
    refine ok_br.mpr ⟨fun _ => r0 _, fun _ => ?_⟩
    rw [valueOf_e, bnd_so]
    exact r0 _
  have t24 : ∀ y : Int32, OK (fun x _ => RES Fv P PR T C ND CN p mu u x) (fb_M_afterRun_24 N () v (I q) r y) := fun y => by
    unfold fb_M_afterRun_24
    rw [lit1q, show (10 : Int32) = I 10 from rfl, term_e, bnd_so]
    refine ok_br.mpr ⟨fun _ => ok_br.mpr ⟨fun _ => t49 y, fun _ => ?_⟩, fun _ => t49 y⟩
    exact ok_bnd.mpr (ok_mono (err_ok (N := N) (a := 11) v1 (PGM_fr hp v3 (by decide) (by decide)) (by omega) hN) (fun x _ hx => ok_some.mpr (back x hx)))
  rw [sortOf_e, bnd_so, valueOf_e, bnd_so]
  exact ok_br.mpr ⟨fun _ => ok_br.mpr ⟨fun _ => t24 0, fun _ => t24 1⟩, fun _ => t24 0⟩
end
end
section
section
variable {Fv : Int64 → Int64 → Prop} {P : Int64 → Prop} {u v w w2 : MS} {PR N p n n2 opM bnM bxM bx2 ND fr k tp mu CN PN SN UN FN rq q m h mm : Nat} {ow kd ow2 kd2 ro rn rh cb pc ct pM pE : Nat → Nat} {T : TY} {C : CY}
def MVD (Fv : Int64 → Int64 → Prop) (P : Int64 → Prop) (p : Nat) (u : MS) (n : Nat) (ow kd : Nat → Nat) (opM bnM : Nat) (v : MS) (n2 : Nat) (ow2 kd2 : Nat → Nat) (fd : Int64 → Int64) : Prop :=
  (∀ i, i < opM → v.2.2.2 91 (46000 * p + i) = fd (u.2.2.2 91 (46000 * p + i))) ∧ (∀ i, i < bnM → v.2.2.2 93 (2500 * p + i) = fd (u.2.2.2 93 (2500 * p + i))) ∧
  (∀ i f s, i < opM → SZ (hp u p) n ow kd Fv P f (u.2.2.2 91 (46000 * p + i)) s → SZ (hp v p) n2 ow2 kd2 Fv P f (fd (u.2.2.2 91 (46000 * p + i))) s) ∧
  (∀ i f s, i < bnM → SZ (hp u p) n ow kd Fv P f (u.2.2.2 93 (2500 * p + i)) s → SZ (hp v p) n2 ow2 kd2 Fv P f (fd (u.2.2.2 93 (2500 * p + i))) s) ∧
  (∀ i j t, i < opM → LST (hp u p) j (u.2.2.2 91 (46000 * p + i)) t → LST (hp v p) j (fd (u.2.2.2 91 (46000 * p + i))) (fd t))
theorem wantsE (e : ERX Fv P PR T C ND CN p u fr ro rn rh cb pc ct q n ow kd opM bnM bxM mu) {k : Nat} (hk : k ≤ 100000) (hN : 60000 ≤ N) : OK (fun v r => ∃ n2 ow2 kd2 fd, ERX Fv P PR T C ND CN p v fr ro rn rh cb pc ct q n2 ow2 kd2 opM bnM bxM mu ∧ FR [136, 138] [139] [89, 90, 135] [88, 91, 93, 107, 134, 137] u v ∧ MVD Fv P p u n ow kd opM bnM v n2 ow2 kd2 fd ∧ ((r = I 1 ∧ n2 + k ≤ 500) ∨ r = I 0)) (fm_M_wants N u (I p) (I k)) := by
  have i := e.1
  obtain ⟨m1, m2, m3, m4, m5, m6⟩ := id i
  obtain ⟨x1, x2, x3, x4, x5, x6, x7, x8, x9, x10, x11⟩ := id m6
  refine ok_mono (wants_ok (N := N) m6 m5 (k := k) hk hN) (fun v r hv => ?_)
  obtain ⟨n2, ow2, kd2, fd, R, ⟨t1, t2, t3, t4, t5, t6, t7, t8, t9, t10, t11, t12⟩, h2⟩ := hv
  have mv : MEI Fv P PR v p n2 ow2 kd2 opM bnM bxM := MEI_upd i (FR.mo t6 (by decide) (by decide) (by decide) (by decide)) (by rw [FR.F t6 (by decide)]; exact m1.2.2.2.1) (fun z hz => by rw [t5, if_neg hz]) (fun z _ => FR.A t6 (by decide)) (fun z _ => FR.A t6 (by decide)) (fun z _ => FR.A t6 (by decide)) (fun j hj => t7 j hj) (fun j hj => RTS_out t8 x5.2 hj) (fun j hj => RTS_out t9 x6.2 hj) (fun j hj => RTS_out t10 x7.2 hj) (by rw [t5, if_pos rfl]) t3
  refine ⟨n2, ow2, kd2, fd, ERX_fr e t6 (by decide) (by decide) (by decide) mv e.2.2.2.2.2.2.1 e.2.2.2.2.2.2.2.1, t6, ⟨fun j hj => ((t8 (46000 * p + j)).1 ⟨by omega, by omega⟩).1, fun j hj => ((t9 (2500 * p + j)).1 ⟨by omega, by omega⟩).1, fun j f s hj z => HOM_sz t1 t2 x2 z ((t8 (46000 * p + j)).1 ⟨by omega, by omega⟩).2, fun j f s hj z => HOM_sz t1 t2 x2 z ((t9 (2500 * p + j)).1 ⟨by omega, by omega⟩).2, fun j k t hj l => LST_hom t1 k _ t ((t8 (46000 * p + j)).1 ⟨by omega, by omega⟩).2 l⟩, ?_⟩
  rcases h2 with h2 | h2
  · exact Or.inl h2
  · exact Or.inr h2.1
theorem noRoomR (e : ERX Fv P PR T C ND CN p u fr ro rn rh cb pc ct q n ow kd opM bnM bxM mu) (hPB : PB P PR) : OK (fun v _ => RES Fv P PR T C ND CN p mu u v) (fm_M_noRoom N u) :=
  ok_mono (noRoom_ok (N := N) e.1 hPB) (fun v _ hv => ⟨Or.inl hv.1, Or.inr ⟨FR.mo hv.2.1 (by decide) (by decide) (by decide) (by decide), hv.1.2⟩, OTF_fr hv.2.1 (by decide), hv.2.2⟩)
theorem top_e (h1 : F w 133 = p) (h2 : A w 92 p = ((opM : Nat) : Int)) (hp : p < 24) (ho : opM ≤ 46000) (hk : k < opM) : fm_M_top N w (I k) = some (w, w.2.2.2 91 (46000 * p + (opM - 1 - k))) := by
  unfold fm_M_top fb_M_top_0
  rw [I_F' h1, inb_at (k := 92) (n := 24) rfl (by omega) (by omega) (by decide), ck_t, I_tn (x := (p : Int)) (by omega) (by omega), Int.toNat_natCast, I_A' h2, show (46000 : Int32) = I 46000 from rfl, I_mul, I_add, lit1q, I_sub, I_sub, inb_at (k := 91) (n := 1104000) rfl (by omega) (by omega) (by decide), ck_t, I_tn (by omega) (by omega), show ((p : Int) * 46000 + (opM : Int) - 1 - (k : Int)).toNat = 46000 * p + (opM - 1 - k) from by omega]
theorem smm_ext {c d : Nat → Nat} {a b : Nat} : ∀ k, (∀ j, j < k → c (a + j) = d (b + j)) → smm c a k = smm d b k := by
  intro k
  induction k with
  | zero => intro _; rfl
  | succ k ih => intro h; show smm c a k + c (a + k) = smm d b k + d (b + k); rw [ih (fun j hj => h j (by omega)), h k (by omega)]
theorem smm_first {c : Nat → Nat} {a : Nat} : ∀ k, smm c a (k + 1) = c a + smm c (a + 1) k := by
  intro k
  induction k with
  | zero => show 0 + c (a + 0) = c a + 0; simp
  | succ k ih =>
    show smm c a (k + 1) + c (a + (k + 1)) = c a + (smm c (a + 1) k + c (a + 1 + k))
    rw [ih, show a + (k + 1) = a + 1 + k from by omega]; omega
theorem smm_rev {c : Nat → Nat} : ∀ k, smm (fun j => c (k - 1 - j)) 0 k = smm c 0 k := by
  intro k
  induction k with
  | zero => rfl
  | succ k ih =>
    rw [smm_first]
    show c (k + 1 - 1 - 0) + smm (fun j => c (k + 1 - 1 - j)) (0 + 1) k = smm c 0 k + c (0 + k)
    rw [smm_ext (d := fun j => c (k - 1 - j)) (b := 0) k (fun j hj => by show c (k + 1 - 1 - (0 + 1 + j)) = c (k - 1 - (0 + j)); congr 1; omega), ih]
    simp; omega
end
end
section
section
variable {Fv : Int64 → Int64 → Prop} {P : Int64 → Prop} {u v w w2 : MS} {PR N p n n2 opM bnM bxM bx2 ND fr k tp mu CN PN SN UN FN rq q m h mm : Nat} {ow kd ow2 kd2 ro rn rh cb pc ct pM pE : Nat → Nat} {T : TY} {C : CY}
theorem va_w {x : Int32} : va x.toInt64 = x.toInt := by
  unfold va
  rw [Int32.toInt32_toInt64]
set_option maxRecDepth 100000 in
theorem tup2 {a : Nat} (e : ERX Fv P PR T C ND CN p v fr ro rn rh cb pc ct q n ow kd opM bnM bxM mu) (hH : tH T q ≤ 760) (hq : tB T q + a ≤ tH T q) (ha : a ≤ 8) (hm : m < ND) (hx : NX T q m (tH T q + 1 - a) (tM T q)) (h98 : A v 98 (60 * p + (fr - 1)) = ((m : Nat) : Int)) (ho : opM = ro (fr - 1) + tH T q) (hb : bnM = rn (fr - 1) + rh (fr - 1) + tM T q) (h5 : n + (1 + a) ≤ 500)
    (hs : ∀ f c, (∀ j, j < a → SZ (hp v p) n ow kd Fv P f (v.2.2.2 91 (46000 * p + (opM - a + j))) (c j)) → 1 + a + smm c 0 a ≤ 500) : ∀ k j w M, j + k = a → k < M → FR [] [] [89] [88] v w → (∀ z, A w 89 z = if z = p then ((n + (1 + a) : Nat) : Int) else A v 89 z) → hp w p n = (I a).toInt64 → (∀ i, i < j → hp w p (n + (1 + i)) = v.2.2.2 91 (46000 * p + (opM - a + i))) → (∀ i, ¬ (500 * p + n ≤ i ∧ i < 500 * p + n + (1 + a)) → w.2.2.2 88 i = v.2.2.2 88 i) → OK (fun w2 _ => RES Fv P PR T C ND CN p mu v w2) ((gg_M_tupleRun N M).2 w (I a) (I n) (I j)) := by
  have i := e.1
  have x4 := MEI_p i
  have hf := e.2.1.1
  have hro := (e.2.1.2.2.1 (fr - 1) (by omega)).2.2.2.2.1
  obtain ⟨m1, m2, m3, m4, m5, ⟨x1, x2, x3, x4', x5, x6, x7, x8, x9, x10, x11⟩⟩ := id i
  intro k
  induction k with
  | zero =>
    intro j w M hj hM f h89 c0 cj out
    obtain rfl : j = a := by omega
    obtain ⟨M, rfl⟩ : ∃ M', M = M' + 1 := ⟨M - 1, by omega⟩
    show OK _ (fb_M_tupleRun_111 N (gg_M_tupleRun N M) w (I j) (I n) (I j))
    unfold fb_M_tupleRun_111
    have w133 : F w 133 = p := by rw [FR.F f (by decide)]; exact m3
    have w92 : A w 92 p = ((opM : Nat) : Int) := by rw [FR.A f (by decide)]; exact x5.1
    rw [decI (by omega) (by omega) (by omega) (by omega), decide_eq_true (by omega), br_tq, I_F' w133, inb_at (k := 92) (n := 24) rfl (by omega) (by omega) (by decide), ck_t, ck_t, lt_e, I_tn (x := (p : Int)) (by omega) (by omega), Int.toNat_natCast, I_A' w92, I_sub, show (opM : Int) - (j : Int) = ((opM - j : Nat) : Int) from by omega, wa_e, show (5 : Int32) = I 5 from rfl, term_e, bnd_so]
    have e5 : so (mk 5 (n : Int)) = 5 := so_mk (by omega) (by omega)
    have v5 : va (mk 5 (n : Int)) = n := va_mk (by omega) (by omega)
    have n5 : vn (mk 5 (n : Int)) = n := by unfold vn; rw [v5]; omega
    have vc : va (I (j : Int)).toInt64 = (j : Int) := by rw [va_w, I_ti (by omega) (by omega)]
    have bb : blk (hp w p) (mk 5 (n : Int)) = 1 + j := by unfold blk; rw [e5, n5, c0]; simp; unfold vn; rw [vc]; omega
    have pp : prt (mk 5 (n : Int)) = 1 := by unfold prt; rw [e5]; rfl
    have cc : ∀ i, 1 ≤ i → i < 1 + j → hp w p (n + i) = v.2.2.2 91 (46000 * p + (opM - j + (i - 1))) := fun i h1 h2 => by
      have := cj (i - 1) (by omega)
      rw [show 1 + (i - 1) = i from by omega] at this
      exact this
    obtain ⟨ow2, kd2, r1, r2, r3, -⟩ := MEI_alloc (m := 1 + j) (x := mk 5 (n : Int)) i f h89 h5 out (Or.inr (Or.inl e5)) (by omega) n5 bb (fun _ => by rw [c0]; exact ⟨by rw [vc]; omega, by rw [vc, Int32.toInt_toInt64]; exact I_ti (by omega) (by omega)⟩) (fun e => by omega) (fun i h1 h2 => by rw [pp] at h1; rw [cc i h1 h2]; exact x8 _ (by omega)) (Or.inr (fun f2 c hc => by
      rw [pp]
      have := hs f2 (fun i => c (1 + i)) (fun i hi => by have := hc (1 + i) (by rw [pp]; omega) (by omega); rw [cj i hi] at this; exact this)
      rw [smm_ext (c := c) (a := 1) (d := fun i => c (1 + i)) (b := 0) (1 + j - 1) (fun i _ => by show c (1 + i) = c (1 + (0 + i)); rw [Nat.zero_add]), show 1 + j - 1 = j from by omega]
      exact this))
    have r1' := ops_less r1 (k := opM - j) (by omega)
    have f2 : FR [] [] [89, 92] [88] v (wa w 92 p ((opM - j : Nat) : Int)) := FR.wa (FR.mo f (by decide) (by decide) (by decide) (by decide)) (by decide)
    have o2 : OTF p v (wa w 92 p ((opM - j : Nat) : Int)) := OTF.tr (OTF_fr f (by decide)) (OTF_at (FR.wa FR.rf (by decide) : FR [] [] [92] [] w _) (i0 := p) (fun j hj => by rw [A_eq (by omega) (by omega), if_neg hj]) (Or.inl ⟨by decide, rfl⟩))
    generalize wa w 92 p ((opM - j : Nat) : Int) = w2 at *
    have e2 := ERX_fr e f2 (by decide) (by decide) (by decide) r1' (by omega) (by omega)
    exact ok_bnd.mpr (ok_mono (putR (N := N) e2 hm hx (by rw [FR.A f2 (by decide)]; exact h98) (by omega) hb r2 (by omega)) (fun y _ hy => ok_some.mpr (RES.pre f2 o2 (by decide) (by decide) (by decide) (by decide) hy)))
  | succ k ih =>
    intro j w M hj hM f h89 c0 cj out
    obtain ⟨M, rfl⟩ : ∃ M', M = M' + 1 := ⟨M - 1, by omega⟩
    show OK _ (fb_M_tupleRun_111 N (gg_M_tupleRun N M) w (I a) (I n) (I j))
    unfold fb_M_tupleRun_111
    have w133 : F w 133 = p := by rw [FR.F f (by decide)]; exact m3
    have w92 : A w 92 p = ((opM : Nat) : Int) := by rw [FR.A f (by decide)]; exact x5.1
    rw [decI (by omega) (by omega) (by omega) (by omega), decide_eq_false (by omega), br_fq, I_F' w133, lit1q, I_sub, I_sub, show (a : Int) - 1 - (j : Int) = ((a - 1 - j : Nat) : Int) from by omega, top_e w133 w92 (by omega) (by omega) (by omega), bnd_so, lit500, I_mul, I_add, I_add, I_add, inb_at (k := 88) (n := 12500) rfl (by omega) (by omega) (by decide), ck_t, lt_e, I_tn (by omega) (by omega), show ((p : Int) * 500 + (n : Int) + 1 + (j : Int)).toNat = 500 * p + (n + (1 + j)) from by omega, wj_e, I_add, show (j : Int) + 1 = ((j + 1 : Nat) : Int) from by omega, show opM - 1 - (a - 1 - j) = opM - a + j from by omega, f.2.2.2 91 (by decide)]
    refine ih (j + 1) _ M (by omega) (by omega) (FR.wj f (by decide)) h89 (by rw [hp_wj, if_neg (by omega)]; exact c0) (fun i hi => ?_) (fun i hi => by rw [J_wj, if_pos rfl, if_neg (by omega)]; exact out i hi)
    rw [hp_wj]
    by_cases z : i = j
    · subst z; rw [if_pos rfl]
    · rw [if_neg (by omega)]; exact cj i (by omega)
def cap (c : Nat → Nat) (j : Nat) : Nat := if c j ≤ 500 then c j else 501
theorem cap_le {c : Nat → Nat} : ∀ k, smm (cap c) 0 k ≤ 501 * k := by
  intro k
  induction k with
  | zero => exact Nat.le_refl _
  | succ k ih =>
    show smm (cap c) 0 k + cap c (0 + k) ≤ _
    have : cap c (0 + k) ≤ 501 := by unfold cap; split <;> omega
    omega
theorem cap_eq {c : Nat → Nat} : ∀ k, smm (cap c) 0 k ≤ 500 → smm c 0 k = smm (cap c) 0 k := by
  intro k
  induction k with
  | zero => intro _; rfl
  | succ k ih =>
    intro h
    have h' : smm (cap c) 0 k + cap c (0 + k) ≤ 500 := h
    show smm c 0 k + c (0 + k) = smm (cap c) 0 k + cap c (0 + k)
    rw [ih (by omega)]
    have : cap c (0 + k) = c (0 + k) := by
      unfold cap at h' ⊢
      split
      · rfl
      · next z => rw [if_neg z] at h'; omega
    omega
theorem top_sz {a : Nat} (i : MEI Fv P PR u p n ow kd opM bnM bxM) (ha : a ≤ opM) : ∃ f : Nat, ∃ c : Nat → Nat, ∀ j, j < a → SZ (hp u p) n ow kd Fv P f (u.2.2.2 91 (46000 * p + (opM - 1 - j))) (c j) := by
  obtain ⟨m1, m2, m3, m4, m5, ⟨x1, x2, x3, x4', x5, x6, x7, x8, x9, x10, x11⟩⟩ := i
  exact SZ_all (fun j hj => HP_sz x2 (x8 _ (by omega)))
theorem copyE {j a f : Nat} {c : Nat → Nat} (i : MEI Fv P PR u p n ow kd opM bnM bxM) (hc : ∀ j, j < a → SZ (hp u p) n ow kd Fv P f (u.2.2.2 91 (46000 * p + (opM - 1 - j))) (c j)) (hj : j < a) (ha : a ≤ opM) (f1 : FR [] [] [] [141] u w) (hN : 60000 ≤ N) {α : Type} {Q : MS → α → Prop} {g : MS → Int32 → Option (MS × α)} (h : ∀ v, FR [] [] [] [141] u v → OK Q (g v (I ((cap c j : Nat) : Int)))) : OK Q (bnd (fm_M_top N w (I j)) (fun u12 r12 => bnd (fm_M_copySize N u12 (w.1 133) r12) (fun u13 r13 => g u13 r13))) := by
  obtain ⟨m1, m2, m3, m4, m5, ⟨x1, x2, x3, x4', x5, x6, x7, x8, x9, x10, x11⟩⟩ := i
  have hpw : hp w p = hp u p := by unfold hp; rw [f1.2.2.2 88 (by decide)]
  have w133 : F w 133 = p := by rw [FR.F f1 (by decide)]; exact m3
  rw [top_e w133 (by rw [FR.A f1 (by decide)]; exact x5.1) x4' x5.2 (by omega), bnd_so, I_F' w133, f1.2.2.2 91 (by decide)]
  refine ok_bnd.mpr (ok_mono (copySize_ok (N := N) (Fv := Fv) (P := P) (n := n) (ow := ow) (kd := kd) (f := f) (s := c j) (by rw [hpw]; exact x2) x3 (by omega) (by rw [hpw]; exact hc j hj) (by omega)) (fun v r hv => ?_))
  obtain ⟨v1, v2⟩ := hv
  rw [v2]
  exact h v (FR.tr f1 v1)
set_option maxRecDepth 100000 in
theorem i4 {a : Nat} (e : ERX Fv P PR T C ND CN p u fr ro rn rh cb pc ct q n ow kd (ro (fr - 1) + tH T q) (rn (fr - 1) + rh (fr - 1) + tM T q) bxM mu) (hp' : PGM Fv P PR T C pM pE ND CN PN SN UN FN u) (hq : tB T q + a ≤ tH T q) (ha : a ≤ 8) (hm : m < ND) (hx : NX T q m (tH T q + 1 - a) (tM T q)) (h98 : A u 98 (60 * p + (fr - 1)) = ((m : Nat) : Int)) (hN : 60000 ≤ N) : OK (fun v _ => RES Fv P PR T C ND CN p mu u v) (fm_M_tupleRun N u (I a)) := by
  have i := e.1
  have x4 := MEI_p i
  have hH := (hp'.1.2.2.1 q e.2.2.1).1.1
  have hf := e.2.1.1
  have hro := (e.2.1.2.2.1 (fr - 1) (by omega)).2.2.2.2.1
  obtain ⟨f0, c, hc⟩ := top_sz (a := a) i (by omega)
  have L1 : ∀ k j w M, j + k = a → k + a + 2 ≤ M → FR [] [] [] [141] u w → OK (fun v _ => RES Fv P PR T C ND CN p mu u v) ((gg_M_tupleRun N M).1 w (I a) (I ((1 + a + smm (cap c) 0 j : Nat) : Int)) (I j)) := by
    intro k
    induction k with
    | zero =>
      intro j w M hj hM f1
      obtain rfl : j = a := by omega
      obtain ⟨M, rfl⟩ : ∃ M', M = M' + 1 := ⟨M - 1, by omega⟩
      have cl := cap_le (c := c) j
      show OK _ (fb_M_tupleRun_6 N (gg_M_tupleRun N M) w (I j) (I ((1 + j + smm (cap c) 0 j : Nat) : Int)) (I j))
      unfold fb_M_tupleRun_6
      have hpw : hp w p = hp u p := by unfold hp; rw [f1.2.2.2 88 (by decide)]
      have iw : MEI Fv P PR w p n ow kd (ro (fr - 1) + tH T q) (rn (fr - 1) + rh (fr - 1) + tM T q) bxM := MEI_fr i f1 (by decide) (by decide) (by decide) (by decide) (by decide) (by decide) (by decide) (by decide) (by decide) (by decide) (by decide) (by decide) (by decide) (by decide) (by decide) (by decide) (by decide) (by decide)
      have ew := ERX_fr e f1 (by decide) (by decide) (by decide) iw (by omega) (Nat.le_refl _)
      have o1 : OTF p u w := OTF_fr f1 (by decide)
      rw [decI (by omega) (by omega) (by omega) (by omega), decide_eq_true (by omega), br_tq, lit500, decI (by omega) (by omega) (by omega) (by omega)]
      refine ok_br.mpr ⟨fun z => ?_, fun _ => ok_bnd.mpr (ok_mono (err_ok (N := N) (a := 11) ew (PGM_fr hp' f1 (by decide) (by decide)) (by omega) hN) (fun y _ hy => ok_some.mpr (RES.pre f1 o1 (by decide) (by decide) (by decide) (by decide) hy)))⟩
      have z' : 1 + j + smm (cap c) 0 j ≤ 500 := by have := of_decide_eq_true z; omega
      rw [I_F' iw.2.2.1, lit1q, I_add, show (1 : Int) + (j : Int) = ((1 + j : Nat) : Int) from by omega]
      refine ok_bnd.mpr (ok_mono (wantsE (N := N) ew (k := 1 + j) (by omega) hN) (fun v r hv => ?_))
      obtain ⟨n2, ow2, kd2, fd, v1, v2, v3, v4⟩ := hv
      have fu : FR [136, 138] [139] [89, 90, 135] [88, 91, 93, 107, 134, 137, 141] u v := FR.tr (FR.mo f1 (by decide) (by decide) (by decide) (by decide)) (FR.mo v2 (by decide) (by decide) (by decide) (by decide))
      have ou : OTF p u v := OTF_fr fu (by decide)
      have pre : ∀ y, RES Fv P PR T C ND CN p mu v y → RES Fv P PR T C ND CN p mu u y := fun y hy => RES.pre fu ou (by decide) (by decide) (by decide) (by decide) hy
      refine ok_br.mpr ⟨fun _ => ok_bnd.mpr (ok_mono (noRoomR (N := N) v1 hp'.2.1) (fun y _ hy => ok_some.mpr (pre y hy))), fun zr => ?_⟩
      have h5 : n2 + (1 + j) ≤ 500 := by
        rcases v4 with ⟨-, y⟩ | y
        · exact y
        · exact absurd y (of_decide_eq_false zr)
      have v89 := v1.1.2.2.2.2.1
      have v133 := v1.1.2.2.1
      rw [I_F' v133]
      refine ok_ck.mpr ⟨inb_at (k := 89) (n := 25) rfl (by omega) (by omega) (by decide), ok_lt.mpr (ok_ck.mpr ⟨inb_at (k := 89) (n := 25) rfl (by omega) (by omega) (by decide), ok_ck.mpr ⟨inb_at (k := 89) (n := 25) rfl (by omega) (by omega) (by decide), ok_lt.mpr ?_⟩⟩)⟩
      rw [I_tn (x := (p : Int)) (by omega) (by omega), Int.toNat_natCast, I_A' v89, I_add, show (n2 : Int) + ((1 + j : Nat) : Int) = ((n2 + (1 + j) : Nat) : Int) from by omega, wa_e]
      rw [show (wa v 89 p ((n2 + (1 + j) : Nat) : Int)).1 133 = I p from I_F' v133, I_mul, I_add, show (0 : Int32) = I ((0 : Nat) : Int) from rfl]
      refine ok_ck.mpr ⟨inb_at (k := 88) (n := 12500) rfl (by omega) (by omega) (by decide), ok_lt.mpr ?_⟩
      rw [I_tn (by omega) (by omega), show ((p : Int) * 500 + (n2 : Int)).toNat = 500 * p + n2 from by omega, wj_e]
      refine ok_mono (tup2 (N := N) (a := j) (m := m) v1 hH hq ha hm hx (by rw [FR.A fu (by decide)]; exact h98) rfl rfl h5 (fun f2 d hd => ?_) j 0 _ M (by omega) (by omega) (FR.wj (FR.wa FR.rf (by decide)) (by decide)) (fun z => by rw [A_wj, A_eq (by omega) (by omega)]) (by rw [hp_wj, if_pos rfl]) (fun i hi => absurd hi (Nat.not_lt_zero i)) (fun i hi => by rw [J_wj, if_pos rfl, if_neg (by omega)]; rfl)) (fun y _ hy => pre y hy)
      have hd2 : ∀ i, i < j → d i = c (j - 1 - i) := fun i hi => by
        have h1 := hd i hi
        have h2 := hc (j - 1 - i) (by omega)
        have h3 := v3.2.2.1 (ro (fr - 1) + tH T q - j + i) f0 (c (j - 1 - i)) (by omega) (by rw [hpw, f1.2.2.2 91 (by decide)]; rw [show ro (fr - 1) + tH T q - j + i = ro (fr - 1) + tH T q - 1 - (j - 1 - i) from by omega]; exact h2)
        rw [v3.1 _ (by omega)] at h1
        exact SZ_fun h1 h3
      rw [smm_ext (c := d) (a := 0) (d := fun i => c (j - 1 - i)) (b := 0) j (fun i hi => by rw [Nat.zero_add]; exact hd2 i hi), smm_rev, cap_eq j (by omega)]
      exact z'
    | succ k ih =>
      intro j w M hj hM f1
      obtain ⟨M, rfl⟩ : ∃ M', M = M' + 1 := ⟨M - 1, by omega⟩
      have cl := cap_le (c := c) j
      have cl2 := cap_le (c := c) (j + 1)
      show OK _ (fb_M_tupleRun_6 N (gg_M_tupleRun N M) w (I a) (I ((1 + a + smm (cap c) 0 j : Nat) : Int)) (I j))
      unfold fb_M_tupleRun_6
      rw [decI (by omega) (by omega) (by omega) (by omega), decide_eq_false (by omega), br_fq]
      refine copyE i hc (by omega) (by omega) f1 hN (g := fun u13 r13 => (gg_M_tupleRun N M).1 u13 (I a) (I ((1 + a + smm (cap c) 0 j : Nat) : Int) + r13) (I j + 1)) (fun v fv => ?_)
      show OK _ ((gg_M_tupleRun N M).1 v (I a) (I ((1 + a + smm (cap c) 0 j : Nat) : Int) + I ((cap c j : Nat) : Int)) (I j + 1))
      rw [I_add, lit1q, I_add, show (j : Int) + 1 = ((j + 1 : Nat) : Int) from by omega, show ((1 + a + smm (cap c) 0 j : Nat) : Int) + ((cap c j : Nat) : Int) = ((1 + a + smm (cap c) 0 (j + 1) : Nat) : Int) from by
        show _ = ((1 + a + (smm (cap c) 0 j + cap c (0 + j)) : Nat) : Int)
        rw [Nat.zero_add]; omega]
      exact ih (j + 1) v M (by omega) (by omega) fv
  unfold fm_M_tupleRun fb_M_tupleRun_0
  rw [lit1q, I_add, lit0q, show (0 : Int) = ((0 : Nat) : Int) from rfl, show (1 : Int) + (a : Int) = ((1 + a + smm (cap c) 0 0 : Nat) : Int) from by show _ = ((1 + a + 0 : Nat) : Int); omega]
  exact L1 a 0 u N (by omega) (by omega) FR.rf
end
end
section
section
variable {Fv : Int64 → Int64 → Prop} {P : Int64 → Prop} {u v w w2 : MS} {PR N p n n2 opM bnM bxM bx2 ND fr k tp mu CN PN SN UN FN rq q m h mm : Nat} {ow kd ow2 kd2 ro rn rh cb pc ct pM pE : Nat → Nat} {T : TY} {C : CY}
theorem lst2 {a bs : Nat} (e : ERX Fv P PR T C ND CN p v fr ro rn rh cb pc ct q n ow kd opM bnM bxM mu) (hB : ro (fr - 1) + tB T q ≤ bs) (hb : bnM = rn (fr - 1) + rh (fr - 1) + mm) (hm : m < ND) (hx : NX T q m h mm) (hh : bs + 1 = ro (fr - 1) + h) (hc : bs < 46000) (h98 : A v 98 (60 * p + (fr - 1)) = ((m : Nat) : Int)) (hMn : mm = tM T q) (ha : a ≤ 1000) : ∀ k j w M nn ow2 kd2 f g t s c, j + k = a → k < M → FR [] [] [89, 92] [88] v w → OTF p v w → MEI Fv P PR w p nn ow2 kd2 (bs + k) bnM bxM → SZ (hp w p) nn ow2 kd2 Fv P f t s → (∀ i, i < k → SZ (hp w p) nn ow2 kd2 Fv P g (w.2.2.2 91 (46000 * p + (bs + i))) (c i)) → 2 * k + s + smm c 0 k ≤ 500 → nn + 2 * k ≤ 500 → OK (fun w2 _ => RES Fv P PR T C ND CN p mu v w2) ((gg_M_listRun N M).2 w (I a) t (I j)) := by
  intro k
  induction k with
  | zero =>
    intro j w M nn ow2 kd2 f g t s c hj hM fw o i zt zc hs hn
    obtain rfl : j = a := by omega
    obtain ⟨M, rfl⟩ : ∃ M', M = M' + 1 := ⟨M - 1, by omega⟩
    show OK _ (fb_M_listRun_94 N (gg_M_listRun N M) w (I j) t (I j))
    unfold fb_M_listRun_94
    rw [decI (by omega) (by omega) (by omega) (by omega), decide_eq_true (by omega), br_tq]
    have e2 := ERX_fr e fw (by decide) (by decide) (by decide) i (by omega) (by omega)
    exact ok_bnd.mpr (ok_mono (putR (N := N) e2 hm hx (by rw [FR.A fw (by decide)]; exact h98) (by omega) hb (SZ_gt zt) (by omega)) (fun y _ hy => ok_some.mpr (RES.pre fw o (by decide) (by decide) (by decide) (by decide) hy)))
  | succ k ih =>
    intro j w M nn ow2 kd2 f g t s c hj hM fw o i zt zc hs hn
    obtain ⟨M, rfl⟩ : ∃ M', M = M' + 1 := ⟨M - 1, by omega⟩
    have x4 := MEI_p i
    have om : bs + (k + 1) ≤ 46000 := i.2.2.2.2.2.2.2.2.2.1.2
    show OK _ (fb_M_listRun_94 N (gg_M_listRun N M) w (I a) t (I j))
    unfold fb_M_listRun_94
    rw [decI (by omega) (by omega) (by omega) (by omega), decide_eq_false (by omega), br_fq]
    have hs' : 2 * (k + 1) + s + (smm c 0 k + c (0 + k)) ≤ 500 := hs
    rw [Nat.zero_add] at hs'
    refine ok_bnd.mpr (ok_mono (take_ok (N := N) (opM := bs + k) i) (fun w3 r hw => ?_))
    obtain ⟨w1, w2', w3', w4⟩ := hw
    have f3 : FR [] [] [89, 92] [88] v w3 := by rw [w1]; exact FR.wa fw (by decide)
    have o3 : OTF p v w3 := OTF.tr o (OTF_at (show FR [] [] [92] [] w w3 from by rw [w1]; exact FR.wa FR.rf (by decide)) (i0 := p) (fun j hj => by rw [w1, A_eq (by omega) (by omega), if_neg hj]) (Or.inl ⟨by decide, rfl⟩))
    have hp3 : hp w3 p = hp w p := by rw [w1]; rfl
    have j91 : w3.2.2.2 91 = w.2.2.2 91 := by rw [w1]; rfl
    refine ok_bnd.mpr (ok_mono (pair_ok (N := N) (f := g + f) (sa := c k) (sb := s) (a := r) (b := t) w4 (by rw [hp3, w2']; exact SZ_le (zc k (by omega)) (by omega)) (by rw [hp3]; exact SZ_le zt (by omega)) (by omega) (by omega)) (fun v4 r4 hv => ?_))
    obtain ⟨f4, y1, ow3, kd3, f2, y2, y3, y4, y5⟩ := hv
    rw [y1, show (7 : Int32) = I 7 from rfl, term_e, bnd_so, lit1q, I_add, show (j : Int) + 1 = ((j + 1 : Nat) : Int) from by omega]
    refine ih (j + 1) v4 M (nn + 2) ow3 kd3 f2 g (mk 7 nn) (2 + c k + s) c (by omega) (by omega) (FR.tr f3 (FR.mo f4 (by decide) (by decide) (by decide) (by decide))) (OTF.tr o3 (OTF_fr f4 (by decide))) y2 y3 (fun i hi => ?_) (by omega) (by omega)
    rw [f4.2.2.2 91 (by decide), j91]
    exact y5 _ _ _ (by rw [hp3]; exact zc i (by omega))
theorem i5 {a b : Nat} (e : ERX Fv P PR T C ND CN p u fr ro rn rh cb pc ct q n ow kd (ro (fr - 1) + tH T q) (rn (fr - 1) + rh (fr - 1) + tM T q) bxM mu) (hp' : PGM Fv P PR T C pM pE ND CN PN SN UN FN u) (hq : tB T q + (a + b) ≤ tH T q) (ha : a ≤ 8) (hb1 : b ≤ 1) (hm : m < ND) (hx : NX T q m (tH T q + 1 - (a + b)) (tM T q)) (h98 : A u 98 (60 * p + (fr - 1)) = ((m : Nat) : Int)) (hN : 60000 ≤ N) : OK (fun v _ => RES Fv P PR T C ND CN p mu u v) (fm_M_listRun N u (I a) (I b)) := by
  have i := e.1
  have x4 := MEI_p i
  have hH := (hp'.1.2.2.1 q e.2.2.1).1.1
  have hf := e.2.1.1
  have hro := (e.2.1.2.2.1 (fr - 1) (by omega)).2.2.2.2.1
  obtain ⟨f0, c, hc⟩ := top_sz (a := a + b) i (by omega)
  have L1 : ∀ k j w M, j + k = a + b → k + a + 3 ≤ M → FR [] [] [] [141] u w → OK (fun v _ => RES Fv P PR T C ND CN p mu u v) ((gg_M_listRun N M).1 w (I a) (I b) (I ((2 * a + smm (cap c) 0 j : Nat) : Int)) (I j)) := by
    intro k
    induction k with
    | zero =>
      intro j w M hj hM f1
      obtain rfl : j = a + b := by omega
      obtain ⟨M, rfl⟩ : ∃ M', M = M' + 1 := ⟨M - 1, by omega⟩
      have cl := cap_le (c := c) (a + b)
      show OK _ (fb_M_listRun_7 N (gg_M_listRun N M) w (I a) (I b) (I ((2 * a + smm (cap c) 0 (a + b) : Nat) : Int)) (I ((a + b : Nat) : Int)))
      unfold fb_M_listRun_7
      have hpw : hp w p = hp u p := by unfold hp; rw [f1.2.2.2 88 (by decide)]
      have iw : MEI Fv P PR w p n ow kd (ro (fr - 1) + tH T q) (rn (fr - 1) + rh (fr - 1) + tM T q) bxM := MEI_fr i f1 (by decide) (by decide) (by decide) (by decide) (by decide) (by decide) (by decide) (by decide) (by decide) (by decide) (by decide) (by decide) (by decide) (by decide) (by decide) (by decide) (by decide) (by decide)
      have ew := ERX_fr e f1 (by decide) (by decide) (by decide) iw (by omega) (Nat.le_refl _)
      have o1 : OTF p u w := OTF_fr f1 (by decide)
      rw [I_add, decI (by omega) (by omega) (by omega) (by omega), decide_eq_true (by omega), br_tq, lit500, decI (by omega) (by omega) (by omega) (by omega)]
      refine ok_br.mpr ⟨fun z => ?_, fun _ => ok_bnd.mpr (ok_mono (err_ok (N := N) (a := 11) ew (PGM_fr hp' f1 (by decide) (by decide)) (by omega) hN) (fun y _ hy => ok_some.mpr (RES.pre f1 o1 (by decide) (by decide) (by decide) (by decide) hy)))⟩
      have z' : 2 * a + smm (cap c) 0 (a + b) ≤ 500 := by have := of_decide_eq_true z; omega
      rw [I_F' iw.2.2.1, show (2 : Int32) = I 2 from rfl, I_mul, show (2 : Int) * (a : Int) = ((2 * a : Nat) : Int) from by omega]
      refine ok_bnd.mpr (ok_mono (wantsE (N := N) ew (k := 2 * a) (by omega) hN) (fun v r hv => ?_))
      obtain ⟨n2, ow2, kd2, fd, v1, v2, v3, v4⟩ := hv
      have fu : FR [136, 138] [139] [89, 90, 135] [88, 91, 93, 107, 134, 137, 141] u v := FR.tr (FR.mo f1 (by decide) (by decide) (by decide) (by decide)) (FR.mo v2 (by decide) (by decide) (by decide) (by decide))
      have ou : OTF p u v := OTF_fr fu (by decide)
      have pre : ∀ y, RES Fv P PR T C ND CN p mu v y → RES Fv P PR T C ND CN p mu u y := fun y hy => RES.pre fu ou (by decide) (by decide) (by decide) (by decide) hy
      refine ok_br.mpr ⟨fun _ => ok_bnd.mpr (ok_mono (noRoomR (N := N) v1 hp'.2.1) (fun y _ hy => ok_some.mpr (pre y hy))), fun zr => ?_⟩
      have h5 : n2 + 2 * a ≤ 500 := by
        rcases v4 with ⟨-, y⟩ | y
        · exact y
        · exact absurd y (of_decide_eq_false zr)
      have sz : ∀ i, i < a + b → SZ (hp v p) n2 ow2 kd2 Fv P f0 (v.2.2.2 91 (46000 * p + (ro (fr - 1) + tH T q - (a + b) + i))) (c (a + b - 1 - i)) := fun i hi => by
        have h2 := hc (a + b - 1 - i) (by omega)
        have h3 := v3.2.2.1 (ro (fr - 1) + tH T q - (a + b) + i) f0 (c (a + b - 1 - i)) (by omega) (by rw [hpw, f1.2.2.2 91 (by decide)]; rw [show ro (fr - 1) + tH T q - (a + b) + i = ro (fr - 1) + tH T q - 1 - (a + b - 1 - i) from by omega]; exact h2)
        rw [v3.1 _ (by omega)]
        exact h3
      have sum : smm (fun i => c (a + b - 1 - i)) 0 (a + b) = smm (cap c) 0 (a + b) := by rw [smm_rev, cap_eq _ (by omega)]
      have h98v : A v 98 (60 * p + (fr - 1)) = ((m : Nat) : Int) := by rw [FR.A fu (by decide)]; exact h98
      rw [show (1 : Int32) = I 1 from rfl, decE (by omega) (by omega) (by omega) (by omega)]
      refine ok_br.mpr ⟨fun zb => ?_, fun zb => ?_⟩
      · obtain rfl : b = 1 := by have := of_decide_eq_true zb; omega
        have v1' := v1
        rw [show ro (fr - 1) + tH T q = ro (fr - 1) + tH T q - 1 + 1 from by omega] at v1'
        refine ok_bnd.mpr (ok_mono (take_ok (N := N) v1'.1) (fun w3 r hw => ?_))
        obtain ⟨w1, w2', w3', w4⟩ := hw
        have f3 : FR [] [] [92] [] v w3 := by rw [w1]; exact FR.wa FR.rf (by decide)
        have o3 : OTF p v w3 := OTF_at f3 (i0 := p) (fun j hj => by rw [w1, A_eq (by omega) (by omega), if_neg hj]) (Or.inl ⟨by decide, rfl⟩)
        have hp3 : hp w3 p = hp v p := by rw [w1]; rfl
        have j91 : w3.2.2.2 91 = v.2.2.2 91 := by rw [w1]; rfl
        unfold fb_M_listRun_89
        have sum' : smm (fun i => c (a + 1 - 1 - i)) 0 a + c (a + 1 - 1 - (0 + a)) = smm (cap c) 0 (a + 1) := sum
        have st := sz a (by omega)
        rw [show ro (fr - 1) + tH T q - (a + 1) + a = ro (fr - 1) + tH T q - 1 from by omega, ← w2'] at st
        rw [show (0 : Int32) = I ((0 : Nat) : Int) from rfl]
        rw [show ro (fr - 1) + tH T q - 1 = ro (fr - 1) + tH T q - (a + 1) + a from by omega] at w4
        refine ok_mono (lst2 (N := N) (a := a) (bs := ro (fr - 1) + tH T q - (a + 1)) (m := m) v1 (by omega) rfl hm hx (by omega) (by omega) h98v rfl (by omega) a 0 w3 M n2 ow2 kd2 f0 f0 r (c (a + 1 - 1 - a)) (fun i => c (a + 1 - 1 - i)) (by omega) (by omega) (FR.mo f3 (by decide) (by decide) (by decide) (by decide)) o3 w4 (by rw [hp3]; exact st) (fun i hi => by rw [hp3, j91]; exact sz i (by omega)) ?_ h5) (fun y _ hy => pre y hy)
        rw [Nat.zero_add] at sum'; omega
      · obtain rfl : b = 0 := by have := of_decide_eq_false zb; omega
        rw [show (6 : Int32) = I 6 from rfl, lit0q, term_e, bnd_so]
        unfold fb_M_listRun_89
        rw [show (0 : Int32) = I ((0 : Nat) : Int) from rfl]
        refine ok_mono (lst2 (N := N) (a := a) (bs := ro (fr - 1) + tH T q - a) (m := m) v1 (by omega) rfl hm hx (by omega) (by omega) h98v rfl (by omega) a 0 v M n2 ow2 kd2 1 f0 (mk 6 0) 0 (fun i => c (a + 0 - 1 - i)) (by omega) (by omega) FR.rf (OTF_fr (FR.rf : FR [] [] [] [] v v) (by decide)) (by rw [show ro (fr - 1) + tH T q - a + a = ro (fr - 1) + tH T q from by omega]; exact v1.1) (Or.inl ⟨nh_mk (by omega), hp'.2.1.2.2.2.2, rfl⟩) (fun i hi => sz i (by omega)) (by rw [show a = a + 0 from rfl]; rw [sum]; omega) h5) (fun y _ hy => pre y hy)
    | succ k ih =>
      intro j w M hj hM f1
      obtain ⟨M, rfl⟩ : ∃ M', M = M' + 1 := ⟨M - 1, by omega⟩
      have cl := cap_le (c := c) j
      have cl2 := cap_le (c := c) (j + 1)
      show OK _ (fb_M_listRun_7 N (gg_M_listRun N M) w (I a) (I b) (I ((2 * a + smm (cap c) 0 j : Nat) : Int)) (I j))
      unfold fb_M_listRun_7
      rw [I_add, decI (by omega) (by omega) (by omega) (by omega), decide_eq_false (by omega), br_fq]
      refine copyE i hc (by omega) (by omega) f1 hN (g := fun u13 r13 => (gg_M_listRun N M).1 u13 (I a) (I b) (I ((2 * a + smm (cap c) 0 j : Nat) : Int) + r13) (I j + 1)) (fun v fv => ?_)
      show OK _ ((gg_M_listRun N M).1 v (I a) (I b) (I ((2 * a + smm (cap c) 0 j : Nat) : Int) + I ((cap c j : Nat) : Int)) (I j + 1))
      rw [I_add, lit1q, I_add, show (j : Int) + 1 = ((j + 1 : Nat) : Int) from by omega, show ((2 * a + smm (cap c) 0 j : Nat) : Int) + ((cap c j : Nat) : Int) = ((2 * a + smm (cap c) 0 (j + 1) : Nat) : Int) from by
        show _ = ((2 * a + (smm (cap c) 0 j + cap c (0 + j)) : Nat) : Int)
        rw [Nat.zero_add]; omega]
      exact ih (j + 1) v M (by omega) (by omega) fv
  unfold fm_M_listRun fb_M_listRun_0
  rw [show (2 : Int32) = I 2 from rfl, I_mul, lit0q, show (0 : Int) = ((0 : Nat) : Int) from rfl, show (2 : Int) * (a : Int) = ((2 * a + smm (cap c) 0 0 : Nat) : Int) from by show _ = ((2 * a + 0 : Nat) : Int); omega]
  exact L1 (a + b) 0 u N (by omega) (by omega) FR.rf
theorem i2 {s : Nat} (e : ERX Fv P PR T C ND CN p u fr ro rn rh cb pc ct q n ow kd (ro (fr - 1) + tH T q) (rn (fr - 1) + rh (fr - 1) + tM T q) bxM mu) (hp' : PGM Fv P PR T C pM pE ND CN PN SN UN FN u) (hs : s < SN) (hm : m < ND) (hx : NX T q m (tH T q + 1) (tM T q)) (h98 : A u 98 (60 * p + (fr - 1)) = ((m : Nat) : Int)) (hN : 60000 ≤ N) : OK (fun v _ => RES Fv P PR T C ND CN p mu u v) (fm_M_stringRun N u (I s)) := by
  have i := e.1
  have x4 := MEI_p i
  have hH := (hp'.1.2.2.1 q e.2.2.1).1.1
  have hf := e.2.1.1
  have hro := (e.2.1.2.2.1 (fr - 1) (by omega)).2.2.2.2.1
  obtain ⟨s0, s1⟩ := hp'.1.2.1
  obtain ⟨s2, s3, s4⟩ := s1 s hs
  clear s1
  obtain ⟨L, hL⟩ : ∃ L : Nat, A u 19 (s + 1) - A u 19 s = (L : Int) := ⟨(A u 19 (s + 1) - A u 19 s).toNat, by omega⟩
  unfold fm_M_stringRun fb_M_stringRun_0
  rw [lit1q, I_add]
  refine ok_ck.mpr ⟨inb_at (k := 19) (n := 2002) rfl (by omega) (by omega) (by decide), ok_ck.mpr ⟨inb_at (k := 19) (n := 2002) rfl (by omega) (by omega) (by decide), ok_lt.mpr ?_⟩⟩
  rw [I_tn (x := (s : Int) + 1) (by omega) (by omega), show ((s : Int) + 1).toNat = s + 1 from by omega, I_tn (x := (s : Int)) (by omega) (by omega), Int.toNat_natCast, I_A (k := 19) (i := s + 1), I_A (k := 19) (i := s), I_sub, hL, I_F' i.2.2.1, show (2 : Int32) = I 2 from rfl, I_mul, show (2 : Int) * (L : Int) = ((2 * L : Nat) : Int) from by omega, I_sub]
  refine ok_bnd.mpr (ok_mono (wantsE (N := N) e (k := 2 * L) (by omega) hN) (fun v r hv => ?_))
  obtain ⟨n2, ow2, kd2, fd, v1, v2, v3, v4⟩ := hv
  have ou : OTF p u v := OTF_fr v2 (by decide)
  have pre : ∀ y, RES Fv P PR T C ND CN p mu v y → RES Fv P PR T C ND CN p mu u y := fun y hy => RES.pre v2 ou (by decide) (by decide) (by decide) (by decide) hy
  refine ok_br.mpr ⟨fun _ => ok_bnd.mpr (ok_mono (noRoomR (N := N) v1 hp'.2.1) (fun y _ hy => ok_some.mpr (pre y hy))), fun zr => ?_⟩
  have h5 : n2 + 2 * L ≤ 500 := by
    rcases v4 with ⟨-, y⟩ | y
    · exact y
    · exact absurd y (of_decide_eq_false zr)
  rw [show (6 : Int32) = I 6 from rfl, lit0q, term_e, bnd_so]
  have h98v : A v 98 (60 * p + (fr - 1)) = ((m : Nat) : Int) := by rw [FR.A v2 (by decide)]; exact h98
  have e19 : ∀ j, A v 19 j = A u 19 j := fun j => FR.A v2 (by decide)
  have lp : ∀ k w M nn ow2 kd2 f t sz, k < M → k ≤ L → FR [] [] [89] [88] v w → MEI Fv P PR w p nn ow2 kd2 (ro (fr - 1) + tH T q) (rn (fr - 1) + rh (fr - 1) + tM T q) bxM → SZ (hp w p) nn ow2 kd2 Fv P f t sz → 2 * k + sz ≤ 500 → nn + 2 * k ≤ 500 → OK (fun y _ => RES Fv P PR T C ND CN p mu v y) (gg_M_stringRun N M w (I s) t (I ((k : Int) - 1))) := by
    intro k
    induction k with
    | zero =>
      intro w M nn ow2 kd2 f t sz hM hk fw iw zt h1 h2
      obtain ⟨M, rfl⟩ : ∃ M', M = M' + 1 := ⟨M - 1, by omega⟩
      show OK _ (fb_M_stringRun_47 N (gg_M_stringRun N M) w (I s) t (I ((0 : Nat) - 1 : Int)))
      unfold fb_M_stringRun_47
      rw [lit0q, decL (by omega) (by omega) (by omega) (by omega), decide_eq_true (by omega), br_tq]
      have e2 := ERX_fr v1 fw (by decide) (by decide) (by decide) iw (by have := (hp'.1.2.2.1 q e.2.2.1).1.2.2.2.1; omega) (Nat.le_refl _)
      exact ok_bnd.mpr (ok_mono (putR (N := N) e2 hm hx (by rw [FR.A fw (by decide)]; exact h98v) (by omega) rfl (SZ_gt zt) (by omega)) (fun y _ hy => ok_some.mpr (RES.pre fw (OTF_fr fw (by decide)) (by decide) (by decide) (by decide) (by decide) hy)))
    | succ k ih =>
      intro w M nn ow2 kd2 f t sz hM hk fw iw zt h1 h2
      obtain ⟨M, rfl⟩ : ∃ M', M = M' + 1 := ⟨M - 1, by omega⟩
      show OK _ (fb_M_stringRun_47 N (gg_M_stringRun N M) w (I s) t (I (((k + 1 : Nat) : Int) - 1)))
      unfold fb_M_stringRun_47
      have w19 : A w 19 s = A u 19 s := by rw [FR.A fw (by decide), e19]
      rw [lit0q, decL (by omega) (by omega) (by omega) (by omega), decide_eq_false (by omega), br_fq]
      refine ok_ck.mpr ⟨inb_at (k := 19) (n := 2002) rfl (by omega) (by omega) (by decide), ?_⟩
      rw [I_tn (x := (s : Int)) (by omega) (by omega), Int.toNat_natCast, I_A' w19, I_add]
      refine ok_ck.mpr ⟨inb_at (k := 18) (n := 4002) rfl (by omega) (by omega) (by decide), ?_⟩
      rw [show I 0 = (0 : Int32) from rfl, term0_e, bnd_so]
      refine ok_bnd.mpr (ok_mono (pair_ok (N := N) (f := f) (sa := 0) (sb := sz) (b := t) iw (by
        cases f with
        | zero => exact zt.elim
        | succ f => exact Or.inl ⟨nh_mk (by omega), hp'.2.1.2.2.2.1 _ (ti_rng _).1 (ti_rng _).2, rfl⟩) zt (by omega) (by omega)) (fun v4 r4 hv => ?_))
      obtain ⟨f4, y1, ow3, kd3, f2, y2, y3, y4, y5⟩ := hv
      rw [y1, show (7 : Int32) = I 7 from rfl, term_e, bnd_so, litm1q, I_add, show ((k + 1 : Nat) : Int) - 1 + -1 = (k : Int) - 1 from by omega]
      exact ih v4 M (nn + 2) ow3 kd3 f2 (mk 7 nn) (2 + 0 + sz) (by omega) (by omega) (FR.tr fw f4) y2 y3 (by omega) (by omega)
  exact ok_mono (lp L v N n2 ow2 kd2 1 (mk 6 0) 0 (by omega) (Nat.le_refl _) FR.rf v1.1 (Or.inl ⟨nh_mk (by omega), hp'.2.1.2.2.2.2, rfl⟩) (by omega) h5) (fun y _ hy => pre y hy)
end
end
section
section
variable {Fv : Int64 → Int64 → Prop} {P : Int64 → Prop} {u v w w2 : MS} {PR N p n n2 opM bnM bxM bx2 ND fr k tp mu CN PN SN UN FN rq q m h mm : Nat} {ow kd ow2 kd2 ro rn rh cb pc ct pM pE : Nat → Nat} {T : TY} {C : CY}
theorem LST_sz {h : Nat → Int64} {k f s : Nat} {x t : Int64} (l : LST h (k + 1) x t) (z : SZ h n ow kd Fv P f x s) : ∃ f' sa sb, f = f' + 1 ∧ SZ h n ow kd Fv P f' (h (vn x)) sa ∧ SZ h n ow kd Fv P f' (h (vn x + 1)) sb ∧ s = 2 + sa + sb ∧ LST h k (h (vn x + 1)) t ∧ va x = (vn x : Int) ∧ vn x + 2 ≤ n := by
  obtain ⟨l1, l2⟩ := l
  have hx : isH x := Or.inr (Or.inr l1)
  cases f with
  | zero => exact z.elim
  | succ f =>
    rcases z with ⟨z1, -⟩ | ⟨-, b, c, z3, z4⟩
    · exact absurd hx z1
    have bb : blk h x = 2 := by unfold blk; rw [l1]; rfl
    have pp : prt x = 0 := by unfold prt; rw [l1]; rfl
    rw [bb, pp] at z3 z4
    have bn := b.2.2.2.1
    rw [bb] at bn
    refine ⟨f, c 0, c 1, rfl, z3 0 (by omega) (by omega), z3 1 (by omega) (by omega), ?_, l2, by have := b.1; unfold vn; omega, bn⟩
    rw [z4]; show 2 + (0 + c (0 + 0) + c (0 + 1)) = _; simp; omega
def kn (g : Nat → Int) (k : Nat) : Nat := smm (fun j => if g j = 0 then 1 else 0) 0 k
def ks (g : Nat → Int) (c : Nat → Nat) (k : Nat) : Nat := smm (fun j => if g j = 0 then 2 + c j else 0) 0 k
theorem kn_s {g : Nat → Int} {k : Nat} : kn g (k + 1) = kn g k + if g k = 0 then 1 else 0 := by
  show smm _ 0 k + (if g (0 + k) = 0 then 1 else 0) = _
  rw [Nat.zero_add]; rfl
theorem ks_s {g : Nat → Int} {c : Nat → Nat} {k : Nat} : ks g c (k + 1) = ks g c k + if g k = 0 then 2 + c k else 0 := by
  show smm _ 0 k + (if g (0 + k) = 0 then 2 + c (0 + k) else 0) = _
  rw [Nat.zero_add]; rfl
theorem ks_le {g : Nat → Int} {c : Nat → Nat} : ∀ k, ks g c k ≤ smm (fun j => 2 + c j) 0 k := by
  intro k
  induction k with
  | zero => exact Nat.le_refl _
  | succ k ih =>
    rw [ks_s]
    show _ ≤ smm (fun j => 2 + c j) 0 k + (2 + c (0 + k))
    rw [Nat.zero_add]
    split <;> omega
theorem kn_le {g : Nat → Int} : ∀ k, kn g k ≤ k := by
  intro k
  induction k with
  | zero => exact Nat.le_refl _
  | succ k ih => rw [kn_s]; split <;> omega
theorem anew2 {g : Nat} {c : Nat → Nat} (e : ERX Fv P PR T C ND CN p v fr ro rn rh cb pc ct q n ow kd opM bnM bxM mu) (hq : tB T q + 2 ≤ tH T q) (hm : m < ND) (hx : NX T q m (tH T q - 1) (tM T q)) (h98 : A v 98 (60 * p + (fr - 1)) = ((m : Nat) : Int)) (ho : opM = ro (fr - 1) + tH T q) (hb : bnM = rn (fr - 1) + rh (fr - 1) + tM T q) : ∀ k w M nn ow2 kd2 f t s, k < M → k ≤ 500 → FR [] [] [89] [88] v w → MEI Fv P PR w p nn ow2 kd2 opM bnM bxM → SZ (hp w p) nn ow2 kd2 Fv P f t s → (∀ j, j < k → SZ (hp w p) nn ow2 kd2 Fv P g (v.2.2.2 167 j) (c j)) → nn + 2 * kn (A v 168) k ≤ 500 → (0 < kn (A v 168) k → ks (A v 168) c k + s ≤ 500) → OK (fun w2 _ => RES Fv P PR T C ND CN p mu v w2) ((gg_M_anew N M).2 w t (I ((k : Int) - 1))) := by
  intro k
  induction k with
  | zero =>
    intro w M nn ow2 kd2 f t s hM hk fw iw zt zc hn hs
    obtain ⟨M, rfl⟩ : ∃ M', M = M' + 1 := ⟨M - 1, by omega⟩
    have x4 := MEI_p iw
    have om : opM ≤ 46000 := iw.2.2.2.2.2.2.2.2.2.1.2
    show OK _ (fb_M_anew_95 N (gg_M_anew N M) w t (I (((0 : Nat) : Int) - 1)))
    unfold fb_M_anew_95
    rw [lit0q, decL (by omega) (by omega) (by omega) (by omega), decide_eq_true (by omega), br_tq, I_F' iw.2.2.1]
    refine ok_ck.mpr ⟨inb_at (k := 92) (n := 24) rfl (by omega) (by omega) (by decide), ok_ck.mpr ⟨inb_at (k := 92) (n := 24) rfl (by omega) (by omega) (by decide), ok_lt.mpr ?_⟩⟩
    rw [I_tn (x := (p : Int)) (by omega) (by omega), Int.toNat_natCast, I_A' iw.2.2.2.2.2.2.2.2.2.1.1, show (2 : Int32) = I 2 from rfl, I_sub, show (opM : Int) - 2 = ((opM - 2 : Nat) : Int) from by omega, wa_e]
    have i2 := ops_less iw (k := opM - 2) (by omega)
    have f2 : FR [] [] [89, 92] [88] v (wa w 92 p ((opM - 2 : Nat) : Int)) := FR.wa (FR.mo fw (by decide) (by decide) (by decide) (by decide)) (by decide)
    have o2 : OTF p v (wa w 92 p ((opM - 2 : Nat) : Int)) := OTF.tr (OTF_fr fw (by decide)) (OTF_at (FR.wa FR.rf (by decide) : FR [] [] [92] [] w _) (i0 := p) (fun j hj => by rw [A_eq (by omega) (by omega), if_neg hj]) (Or.inl ⟨by decide, rfl⟩))
    generalize wa w 92 p ((opM - 2 : Nat) : Int) = w2 at *
    have e2 := ERX_fr e f2 (by decide) (by decide) (by decide) i2 (by omega) (by omega)
    exact ok_bnd.mpr (ok_mono (putR (N := N) e2 hm hx (by rw [FR.A f2 (by decide)]; exact h98) (by omega) hb (SZ_gt zt) (by omega)) (fun y _ hy => ok_some.mpr (RES.pre f2 o2 (by decide) (by decide) (by decide) (by decide) hy)))
  | succ k ih =>
    intro w M nn ow2 kd2 f t s hM hk fw iw zt zc hn hs
    obtain ⟨M, rfl⟩ : ∃ M', M = M' + 1 := ⟨M - 1, by omega⟩
    show OK _ (fb_M_anew_95 N (gg_M_anew N M) w t (I (((k + 1 : Nat) : Int) - 1)))
    unfold fb_M_anew_95
    rw [show ((k + 1 : Nat) : Int) - 1 = (k : Int) from by omega, lit0q, decL (by omega) (by omega) (by omega) (by omega), decide_eq_false (by omega), br_fq]
    rw [kn_s] at hn hs
    rw [ks_s] at hs
    refine ok_ck.mpr ⟨inb_at (k := 168) (n := 500) rfl (by omega) (by omega) (by decide), ?_⟩
    have a168 : A w 168 k = A v 168 k := FR.A fw (by decide)
    have r168 := A_r v 168 k
    rw [I_tn (x := (k : Int)) (by omega) (by omega), Int.toNat_natCast, I_A' a168, decE r168.1 r168.2 (by omega) (by omega)]
    refine ok_br.mpr ⟨fun z => ok_ck.mpr ⟨inb_at (k := 167) (n := 500) rfl (by omega) (by omega) (by decide), ?_⟩, fun z => ?_⟩
    · have z' := of_decide_eq_true z
      rw [if_pos z'] at hn hs
      rw [if_pos z'] at hs
      have hs' := hs (by omega)
      rw [fw.2.2.2 167 (by decide)]
      refine ok_bnd.mpr (ok_mono (pair_ok (N := N) (f := g + f) (sa := c k) (sb := s) iw (SZ_le (zc k (by omega)) (by omega)) (SZ_le zt (by omega)) (by omega) (by omega)) (fun v4 r4 hv => ?_))
      obtain ⟨f4, y1, ow3, kd3, f2, y2, y3, y4, y5⟩ := hv
      unfold fb_M_anew_130
      rw [y1, show (7 : Int32) = I 7 from rfl, term_e, bnd_so, litm1q, I_add, show (k : Int) + -1 = (k : Int) - 1 from by omega]
      exact ih v4 M (nn + 2) ow3 kd3 f2 (mk 7 nn) (2 + c k + s) (by omega) (by omega) (FR.tr fw f4) y2 y3 (fun j hj => y5 _ _ _ (zc j (by omega))) (by omega) (fun _ => by omega)
    · have z' := of_decide_eq_false z
      rw [if_neg z'] at hn hs
      rw [if_neg z'] at hs
      unfold fb_M_anew_130
      rw [litm1q, I_add, show (k : Int) + -1 = (k : Int) - 1 from by omega]
      exact ih w M nn ow2 kd2 f t s (by omega) (by omega) fw iw zt (fun j hj => zc j (by omega)) (by omega) (fun y => by have := hs (by omega); omega)
theorem anew_ok {a K f sl : Nat} {t : Int64} (e : ERX Fv P PR T C ND CN p u fr ro rn rh cb pc ct q n ow kd (ro (fr - 1) + tH T q) (rn (fr - 1) + rh (fr - 1) + tM T q) bxM mu) (hp' : PGM Fv P PR T C pM pE ND CN PN SN UN FN u) (hq : tB T q + 2 ≤ tH T q) (hm : m < ND) (hx : NX T q m (tH T q - 1) (tM T q)) (h98 : A u 98 (60 * p + (fr - 1)) = ((m : Nat) : Int)) (hN : 60000 ≤ N) (ha : a ≤ 500) (hK : K = kn (A u 168) a) (hl : LST (hp u p) a (u.2.2.2 91 (46000 * p + (ro (fr - 1) + tH T q - 2))) t) (zl : SZ (hp u p) n ow kd Fv P f (u.2.2.2 91 (46000 * p + (ro (fr - 1) + tH T q - 2))) sl)
    (hc : (F u 169 = 0 ∧ ∃ f2 sr, SZ (hp u p) n ow kd Fv P f2 (u.2.2.2 91 (46000 * p + (ro (fr - 1) + tH T q - 1))) sr ∧ (0 < K → sl + sr ≤ 500)) ∨ (F u 169 ≠ 0 ∧ (0 < K → sl ≤ 500))) : OK (fun v _ => RES Fv P PR T C ND CN p mu u v) (fm_M_anew N u (I a) (I ((2 * K : Nat) : Int))) := by
  have i := e.1
  have x4 := MEI_p i
  have hH := (hp'.1.2.2.1 q e.2.2.1).1.1
  have hf := e.2.1.1
  have hro := (e.2.1.2.2.1 (fr - 1) (by omega)).2.2.2.2.1
  have kl := kn_le (g := A u 168) a
  unfold fm_M_anew fb_M_anew_0
  rw [I_F' i.2.2.1]
  refine ok_bnd.mpr (ok_mono (wantsE (N := N) e (k := 2 * K) (by omega) hN) (fun v r hv => ?_))
  obtain ⟨n2, ow2, kd2, fd, v1, v2, v3, v4⟩ := hv
  have ou : OTF p u v := OTF_fr v2 (by decide)
  have pre : ∀ y, RES Fv P PR T C ND CN p mu v y → RES Fv P PR T C ND CN p mu u y := fun y hy => RES.pre v2 ou (by decide) (by decide) (by decide) (by decide) hy
  refine ok_br.mpr ⟨fun _ => ok_bnd.mpr (ok_mono (noRoomR (N := N) v1 hp'.2.1) (fun y _ hy => ok_some.mpr (pre y hy))), fun zr => ?_⟩
  have h5 : n2 + 2 * K ≤ 500 := by
    rcases v4 with ⟨-, y⟩ | y
    · exact y
    · exact absurd y (of_decide_eq_false zr)
  have l2 := v3.2.2.2.2 (ro (fr - 1) + tH T q - 2) a t (by omega) hl
  have z2 := v3.2.2.1 (ro (fr - 1) + tH T q - 2) f sl (by omega) zl
  rw [← v3.1 _ (by omega)] at l2 z2
  generalize fd t = t2 at l2
  have e168 : A v 168 = A u 168 := funext (fun j => FR.A v2 (by decide))
  have e169 : F v 169 = F u 169 := FR.F v2 (by decide)
  have h98v : A v 98 (60 * p + (fr - 1)) = ((m : Nat) : Int) := by rw [FR.A v2 (by decide)]; exact h98
  have n500 : n2 ≤ 500 := v1.1.2.2.2.2.2.2.2.1
  have hc2 : (F v 169 = 0 ∧ ∃ f2 sr, SZ (hp v p) n2 ow2 kd2 Fv P f2 (v.2.2.2 91 (46000 * p + (ro (fr - 1) + tH T q - 1))) sr ∧ (0 < K → sl + sr ≤ 500)) ∨ (F v 169 ≠ 0 ∧ (0 < K → sl ≤ 500)) := by
    rw [e169]
    rcases hc with ⟨c1, f2, sr, c2, c3⟩ | c
    · have := v3.2.2.1 (ro (fr - 1) + tH T q - 1) f2 sr (by omega) c2
      rw [← v3.1 _ (by omega)] at this
      exact Or.inl ⟨c1, f2, sr, this, c3⟩
    · exact Or.inr c
  obtain ⟨t1, -⟩ := top_ok (N := N) (k := 1) v1.1 (by omega)
  rw [lit1q, show (1 : Int) = ((1 : Nat) : Int) from rfl, t1, bnd_so, show (0 : Int32) = I ((0 : Nat) : Int) from rfl]
  rw [show ro (fr - 1) + tH T q - 1 - 1 = ro (fr - 1) + tH T q - 2 from by omega]
  have L1 : ∀ (k j : Nat) (w : MS) (M : Nat) (x : Int64) (f s g : Nat) (c : Nat → Nat), j + k = a → k + a + 3 ≤ M → FR [] [] [] [167] v w → LST (hp v p) k x t2 → SZ (hp v p) n2 ow2 kd2 Fv P f x s → (∀ i, i < j → SZ (hp v p) n2 ow2 kd2 Fv P g (w.2.2.2 167 i) (c i)) → smm (fun i => 2 + c i) 0 j + s = sl → OK (fun y _ => RES Fv P PR T C ND CN p mu v y) ((gg_M_anew N M).1 w (I a) x (I j)) := by
    intro k
    induction k with
    | zero =>
      intro j w M x f s g c hj hM fw l z zc hs
      obtain rfl : j = a := by omega
      obtain ⟨M, rfl⟩ : ∃ M', M = M' + 1 := ⟨M - 1, by omega⟩
      have hpw : hp w p = hp v p := by unfold hp; rw [fw.2.2.2 88 (by decide)]
      have iw : MEI Fv P PR w p n2 ow2 kd2 (ro (fr - 1) + tH T q) (rn (fr - 1) + rh (fr - 1) + tM T q) bxM := MEI_fr v1.1 fw (by decide) (by decide) (by decide) (by decide) (by decide) (by decide) (by decide) (by decide) (by decide) (by decide) (by decide) (by decide) (by decide) (by decide) (by decide) (by decide) (by decide) (by decide)
      have ew := ERX_fr v1 fw (by decide) (by decide) (by decide) iw (by omega) (Nat.le_refl _)
      have e168w : A w 168 = A u 168 := by rw [← e168]; exact funext (fun j => FR.A fw (by decide))
      have kle := ks_le (g := A u 168) (c := c) j
      have go : ∀ t0 f0 s0, SZ (hp v p) n2 ow2 kd2 Fv P f0 t0 s0 → (0 < K → ks (A u 168) c j + s0 ≤ 500) → OK (fun y _ => RES Fv P PR T C ND CN p mu v y) (fb_M_anew_88 N (gg_M_anew N M) w (I j) t0) := fun t0 f0 s0 zz hz => by
        unfold fb_M_anew_88
        rw [lit1q, I_sub]
        exact ok_mono (anew2 (N := N) (g := g) (c := c) (m := m) ew hq hm hx (by rw [FR.A fw (by decide)]; exact h98v) rfl rfl j w M n2 ow2 kd2 f0 t0 s0 (by omega) ha FR.rf iw (by rw [hpw]; exact zz) (fun i hi => by rw [hpw]; exact zc i hi) (by rw [e168w, ← hK]; exact h5) (by rw [e168w, ← hK]; exact hz)) (fun y _ hy => RES.pre fw (OTF_fr fw (by decide)) (by decide) (by decide) (by decide) (by decide) hy)
      show OK _ (fb_M_anew_26 N (gg_M_anew N M) w (I j) x (I j))
      unfold fb_M_anew_26
      have r169 := F_r v 169
      rw [decI (by omega) (by omega) (by omega) (by omega), decide_eq_true (by omega), br_tq, I_F' (show F w 169 = F v 169 from FR.F fw (by decide)), lit0q, decE r169.1 r169.2 (by omega) (by omega)]
      refine ok_br.mpr ⟨fun zz => ?_, fun zz => ?_⟩
      · obtain ⟨t3, -⟩ := top_ok (N := N) (k := 0) iw (by omega)
        rw [show (0 : Int) = ((0 : Nat) : Int) from rfl, t3, bnd_so]
        rcases hc2 with ⟨-, f2, sr, c2, c3⟩ | ⟨c1, -⟩
        · rw [fw.2.2.2 91 (by decide)]
          exact go _ f2 sr c2 (fun y => by have := c3 y; omega)
        · exact absurd (of_decide_eq_true zz) c1
      · rcases hc2 with ⟨c1, -⟩ | ⟨-, c2⟩
        · exact absurd c1 (of_decide_eq_false zz)
        · exact go x f s z (fun y => by have := c2 y; omega)
    | succ k ih =>
      intro j w M x f s g c hj hM fw l z zc hs
      obtain ⟨M, rfl⟩ : ∃ M', M = M' + 1 := ⟨M - 1, by omega⟩
      obtain ⟨f', sa, sb, y1, y2, y3, y4, y5, y6, y7⟩ := LST_sz l z
      show OK _ (fb_M_anew_26 N (gg_M_anew N M) w (I a) x (I j))
      unfold fb_M_anew_26
      have hpw : hp w p = hp v p := by unfold hp; rw [fw.2.2.2 88 (by decide)]
      have w133 : F w 133 = p := by rw [FR.F fw (by decide)]; exact v1.1.2.2.1
      rw [decI (by omega) (by omega) (by omega) (by omega), decide_eq_false (by omega), br_fq, valueOf_e, bnd_so, I_F' w133, y6, cell_e (by omega) (by omega), bnd_so]
      refine ok_ck.mpr ⟨inb_at (k := 167) (n := 500) rfl (by omega) (by omega) (by decide), ok_lt.mpr ?_⟩
      rw [I_tn (x := (j : Int)) (by omega) (by omega), Int.toNat_natCast, wj_e, valueOf_e, bnd_so, show (wj w 167 j (hp w p (vn x))).1 133 = I p from I_F' w133, y6, lit1q, I_add, I_add, show (vn x : Int) + 1 = ((vn x + 1 : Nat) : Int) from by omega, cell_e (by omega) (by omega), bnd_so, show (j : Int) + 1 = ((j + 1 : Nat) : Int) from by omega, hpw]
      have hpz : hp (wj w 167 j (hp v p (vn x))) p = hp v p := hpw
      rw [hpz]
      refine ih (j + 1) _ M _ f' sb (g + f') (fun i => if i = j then sa else c i) (by omega) (by omega) (FR.wj fw (by decide)) y5 y3 (fun i hi => ?_) ?_
      · rw [J_wj, if_pos rfl]
        by_cases zi : i = j
        · subst zi; rw [if_pos rfl, if_pos rfl]; exact SZ_le y2 (by omega)
        · rw [if_neg zi, if_neg zi]; exact SZ_le (zc i (by omega)) (by omega)
      · show smm (fun i => 2 + if i = j then sa else c i) 0 j + (2 + if 0 + j = j then sa else c (0 + j)) + sb = sl
        rw [if_pos (by omega), smm_ext (c := fun i => 2 + if i = j then sa else c i) (a := 0) (d := fun i => 2 + c i) (b := 0) j (fun i hi => by show 2 + (if 0 + i = j then sa else c (0 + i)) = _; rw [if_neg (by omega)])]
        omega
  exact ok_mono (L1 a 0 v N _ f sl 0 (fun _ => 0) (by omega) (by omega) FR.rf l2 z2 (fun i hi => absurd hi (Nat.not_lt_zero i)) (by show 0 + sl = sl; omega)) (fun y _ hy => pre y hy)
end
end
section
section
variable {Fv : Int64 → Int64 → Prop} {P : Int64 → Prop} {u v w w2 : MS} {PR N p n n2 opM bnM bxM bx2 ND fr k tp mu CN PN SN UN FN rq q m h mm : Nat} {ow kd ow2 kd2 ro rn rh cb pc ct pM pE : Nat → Nat} {T : TY} {C : CY}
theorem kn_all {g : Nat → Int} : ∀ k, (∀ i, i < k → g i = 0) → kn g k = k := by
  intro k
  induction k with
  | zero => intro _; rfl
  | succ k ih => intro h; rw [kn_s, ih (fun i hi => h i (by omega)), if_pos (h k (by omega))]
theorem kn_ext {g g2 : Nat → Int} : ∀ k, (∀ i, i < k → g i = g2 i) → kn g k = kn g2 k := by
  intro k
  induction k with
  | zero => intro _; rfl
  | succ k ih => intro h; rw [kn_s, kn_s, ih (fun i hi => h i (by omega)), h k (by omega)]
theorem LST_pre {h : Nat → Int64} : ∀ (a k : Nat) (x t : Int64), LST h a x t → k ≤ a → ∃ t', LST h k x t'
  | a, 0, x, t, l, _ => ⟨x, rfl⟩
  | 0, k + 1, x, t, l, hk => by omega
  | a + 1, k + 1, x, t, l, hk => by
    obtain ⟨t', l'⟩ := LST_pre a k _ t l.2 (by omega)
    exact ⟨t', l.1, l'⟩
theorem SZ_lst {h : Nat → Int64} {x : Int64} (g : HP h n ow kd Fv P) (gx : GT n ow kd P x) (h5 : so x ≠ 5) : ∃ f s, SZ h n ow kd Fv P f x s ∧ s ≤ 500 := by
  by_cases z : isH x
  · obtain ⟨f, s, a, b⟩ := g x z gx
    refine ⟨f, s, a, ?_⟩
    by_cases y : s ≤ 500
    · exact y
    · exact absurd (b (by omega)).1 h5
  · rcases gx with ⟨-, b⟩ | ⟨a, -⟩
    · exact ⟨1, 0, Or.inl ⟨z, b, rfl⟩, by omega⟩
    · exact absurd a z
theorem LST_so {h : Nat → Int64} {x t : Int64} {a : Nat} (l : LST h a x t) (h6 : so t = 6) : so x ≠ 5 := by
  cases a with
  | zero => rw [show x = t from l]; omega
  | succ a => have := l.1; omega
theorem nar0 : vp_nar .boolean 0 = I 0 := rfl
theorem nar1 : vp_nar .boolean 1 = I 1 := rfl
theorem joined_ok (e : ERX Fv P PR T C ND CN p u fr ro rn rh cb pc ct q n ow kd (ro (fr - 1) + tH T q) (rn (fr - 1) + rh (fr - 1) + tM T q) bxM mu) (hp' : PGM Fv P PR T C pM pE ND CN PN SN UN FN u) (hq : tB T q + 2 ≤ tH T q) (hm : m < ND) (hx : NX T q m (tH T q - 1) (tM T q)) (h98 : A u 98 (60 * p + (fr - 1)) = ((m : Nat) : Int)) (hN : 60000 ≤ N) : OK (fun v _ => RES Fv P PR T C ND CN p mu u v) (fm_M_joined N u) := by
  have i := e.1
  have x4 := MEI_p i
  have hH := (hp'.1.2.2.1 q e.2.2.1).1.1
  have hf := e.2.1.1
  have hro := (e.2.1.2.2.1 (fr - 1) (by omega)).2.2.2.2.1
  obtain ⟨f0, c, hc⟩ := top_sz (a := 2) i (by omega)
  have c1 := hc 1 (by omega)
  have c0 := hc 0 (by omega)
  rw [show ro (fr - 1) + tH T q - 1 - 1 = ro (fr - 1) + tH T q - 2 from by omega] at c1
  rw [show ro (fr - 1) + tH T q - 1 - 0 = ro (fr - 1) + tH T q - 1 from by omega] at c0
  have bad : ∀ w, FR [] [] [] [141] u w → OK (fun v _ => RES Fv P PR T C ND CN p mu u v) (fb_M_joined_52 N (gg_M_joined N N) w) := fun w fw => by
    unfold fb_M_joined_52
    have iw : MEI Fv P PR w p n ow kd (ro (fr - 1) + tH T q) (rn (fr - 1) + rh (fr - 1) + tM T q) bxM := MEI_fr i fw (by decide) (by decide) (by decide) (by decide) (by decide) (by decide) (by decide) (by decide) (by decide) (by decide) (by decide) (by decide) (by decide) (by decide) (by decide) (by decide) (by decide) (by decide)
    have ew := ERX_fr e fw (by decide) (by decide) (by decide) iw (by omega) (Nat.le_refl _)
    exact ok_bnd.mpr (ok_mono (err_ok (N := N) (a := 11) ew (PGM_fr hp' fw (by decide) (by decide)) (by omega) hN) (fun y _ hy => ok_some.mpr (RES.pre fw (OTF_fr fw (by decide)) (by decide) (by decide) (by decide) (by decide) hy)))
  obtain ⟨t1, g1⟩ := top_ok (N := N) (k := 1) i (by omega)
  rw [show ro (fr - 1) + tH T q - 1 - 1 = ro (fr - 1) + tH T q - 2 from by omega] at t1 g1
  unfold fm_M_joined fb_M_joined_0
  rw [lit1q, show (1 : Int) = ((1 : Nat) : Int) from rfl, t1, bnd_so]
  refine ok_bnd.mpr (ok_mono (lengthOf_ok (N := N) i g1 (by omega)) (fun v r hv => ?_))
  obtain ⟨v1, v2⟩ := hv
  subst v1
  rcases v2 with v2 | ⟨a, t, v2, l, h6, ha⟩
  · subst v2
    refine ok_br.mpr ⟨fun _ => bad _ FR.rf, fun z => absurd rfl (of_decide_eq_false z)⟩
  subst v2
  have lp : ∀ k j w M, j + k = a → k < M → FR [] [] [168] [141] v w → (∀ i, i < j → A w 168 i = 0) → (0 < a → c 1 + c 0 ≤ 500) → OK (fun y _ => RES Fv P PR T C ND CN p mu v y) (gg_M_joined N M w (I a) (I j)) := by
    intro k
    induction k with
    | zero =>
      intro j w M hj hM fw ha0 hs
      obtain rfl : j = a := by omega
      obtain ⟨M, rfl⟩ : ∃ M', M = M' + 1 := ⟨M - 1, by omega⟩
      show OK _ (fb_M_joined_61 N (gg_M_joined N M) w (I j) (I j))
      unfold fb_M_joined_61
      rw [decI (by omega) (by omega) (by omega) (by omega), decide_eq_true (by omega), br_tq, lt_e, lit0q, wi_e]
      have f2 : FR [169] [] [168] [141] v (wi w 169 0) := FR.wi (FR.mo fw (by decide) (by decide) (by decide) (by decide)) (by decide)
      have e9 : F (wi w 169 0) 169 = 0 := by rw [F_wi (by omega) (by omega), if_pos rfl]
      have e8 : ∀ i, i < j → A (wi w 169 0) 168 i = 0 := ha0
      generalize wi w 169 0 = w2 at *
      have hpw : hp w2 p = hp v p := by unfold hp; rw [f2.2.2.2 88 (by decide)]
      have j91 : w2.2.2.2 91 = v.2.2.2 91 := f2.2.2.2 91 (by decide)
      have iw : MEI Fv P PR w2 p n ow kd (ro (fr - 1) + tH T q) (rn (fr - 1) + rh (fr - 1) + tM T q) bxM := MEI_fr i f2 (by decide) (by decide) (by decide) (by decide) (by decide) (by decide) (by decide) (by decide) (by decide) (by decide) (by decide) (by decide) (by decide) (by decide) (by decide) (by decide) (by decide) (by decide)
      have ew := ERX_fr e f2 (by decide) (by decide) (by decide) iw (by omega) (Nat.le_refl _)
      have kk := kn_all (g := A w2 168) j e8
      rw [show (2 : Int32) = I 2 from rfl, I_mul, show (2 : Int) * (j : Int) = ((2 * j : Nat) : Int) from by omega]
      refine ok_bnd.mpr (ok_mono (anew_ok (N := N) (K := j) (a := j) (f := f0) (sl := c 1) (t := t) (m := m) ew (PGM_fr hp' f2 (by decide) (by decide)) hq hm hx (by rw [FR.A f2 (by decide)]; exact h98) hN ha kk.symm (by rw [hpw, j91]; exact l) (by rw [hpw, j91]; exact c1) (Or.inl ⟨e9, f0, c 0, by rw [hpw, j91]; exact c0, hs⟩)) (fun y _ hy => ok_some.mpr (RES.pre f2 (OTF_fr f2 (by decide)) (by decide) (by decide) (by decide) (by decide) hy)))
    | succ k ih =>
      intro j w M hj hM fw ha0 hs
      obtain ⟨M, rfl⟩ : ∃ M', M = M' + 1 := ⟨M - 1, by omega⟩
      show OK _ (fb_M_joined_61 N (gg_M_joined N M) w (I a) (I j))
      unfold fb_M_joined_61
      rw [decI (by omega) (by omega) (by omega) (by omega), decide_eq_false (by omega), br_fq]
      refine ok_ck.mpr ⟨inb_at (k := 168) (n := 500) rfl (by omega) (by omega) (by decide), ok_lt.mpr ?_⟩
      rw [I_tn (x := (j : Int)) (by omega) (by omega), Int.toNat_natCast, nar0, wa_e, lit1q, I_add, show (j : Int) + 1 = ((j + 1 : Nat) : Int) from by omega]
      refine ih (j + 1) _ M (by omega) (by omega) (FR.wa fw (by decide)) (fun i hi => ?_) hs
      rw [A_eq (by omega) (by omega)]
      by_cases zi : i = j
      · rw [if_pos zi]
      · rw [if_neg zi]; exact ha0 i (by omega)
  have go : ∀ w, FR [] [] [] [141] v w → (0 < a → c 1 + c 0 ≤ 500) → OK (fun y _ => RES Fv P PR T C ND CN p mu v y) (fb_M_joined_59 N (gg_M_joined N N) w (I a)) := fun w fw hs => by
    unfold fb_M_joined_59
    rw [show (0 : Int32) = I ((0 : Nat) : Int) from rfl]
    exact lp a 0 w N (by omega) (by omega) (FR.mo fw (by decide) (by decide) (by decide) (by decide)) (fun i hi => absurd hi (Nat.not_lt_zero i)) hs
  rw [I_neg, decE (by omega) (by omega) (by omega) (by omega), decide_eq_false (by omega), br_fq, lit0q, decI (by omega) (by omega) (by omega) (by omega)]
  refine ok_br.mpr ⟨fun z => go v FR.rf (fun y => by have := of_decide_eq_true z; omega), fun z => ?_⟩
  refine copyE i hc (j := 1) (by omega) (by omega) FR.rf hN (fun y1 fy1 => ?_)
  rw [show (0 : Int) = ((0 : Nat) : Int) from rfl]
  refine copyE i hc (j := 0) (by omega) (by omega) fy1 hN (fun y2 fy2 => ?_)
  have b1 : cap c 1 ≤ 501 := by unfold cap; split <;> omega
  have b0 : cap c 0 ≤ 501 := by unfold cap; split <;> omega
  rw [I_add, lit500, decI (by omega) (by omega) (by omega) (by omega)]
  refine ok_br.mpr ⟨fun z => go y2 fy2 (fun _ => ?_), fun z => bad y2 fy2⟩
  have z' := of_decide_eq_true z
  unfold cap at z'
  by_cases q1 : c 1 ≤ 500
  · by_cases q0 : c 0 ≤ 500
    · rw [if_pos q1, if_pos q0] at z'; omega
    · rw [if_pos q1, if_neg q0] at z'; omega
  · rw [if_neg q1] at z'; omega
theorem lessened_ok (e : ERX Fv P PR T C ND CN p u fr ro rn rh cb pc ct q n ow kd (ro (fr - 1) + tH T q) (rn (fr - 1) + rh (fr - 1) + tM T q) bxM mu) (hp' : PGM Fv P PR T C pM pE ND CN PN SN UN FN u) (hq : tB T q + 2 ≤ tH T q) (hm : m < ND) (hx : NX T q m (tH T q - 1) (tM T q)) (h98 : A u 98 (60 * p + (fr - 1)) = ((m : Nat) : Int)) (hN : 11000000 ≤ N) : OK (fun v _ => RES Fv P PR T C ND CN p mu u v) (fm_M_lessened N u) := by
  have i := e.1
  have x4 := MEI_p i
  have hH := (hp'.1.2.2.1 q e.2.2.1).1.1
  have hf := e.2.1.1
  have hro := (e.2.1.2.2.1 (fr - 1) (by omega)).2.2.2.2.1
  have hg := i.2.2.2.2.2.2.1
  have n500 : n ≤ 500 := i.2.2.2.2.2.2.2.1
  have bad : OK (fun v _ => RES Fv P PR T C ND CN p mu u v) (fb_M_lessened_30 N (gg_M_lessened N N) u) := by
    unfold fb_M_lessened_30
    exact ok_bnd.mpr (ok_mono (err_ok (N := N) (a := 11) e hp' (by omega) (by omega)) (fun y _ hy => ok_some.mpr hy))
  obtain ⟨t1, g1⟩ := top_ok (N := N) (k := 1) i (by omega)
  obtain ⟨t0, g0⟩ := top_ok (N := N) (k := 0) i (by omega)
  rw [show ro (fr - 1) + tH T q - 1 - 1 = ro (fr - 1) + tH T q - 2 from by omega] at t1 g1
  rw [show ro (fr - 1) + tH T q - 1 - 0 = ro (fr - 1) + tH T q - 1 from by omega] at t0 g0
  unfold fm_M_lessened fb_M_lessened_0
  rw [show (1 : Int32) = I ((1 : Nat) : Int) from rfl, show (0 : Int32) = I ((0 : Nat) : Int) from rfl, t1, bnd_so]
  refine ok_bnd.mpr (ok_mono (lengthOf_ok (N := N) i g1 (by omega)) (fun v r hv => ?_))
  obtain ⟨v1, v2⟩ := hv
  subst v1
  rw [t0, bnd_so]
  refine ok_bnd.mpr (ok_mono (lengthOf_ok (N := N) i g0 (by omega)) (fun v' r0 hv => ?_))
  obtain ⟨v1, v3⟩ := hv
  subst v1
  rcases v2 with v2 | ⟨a, tl, v2, la, h6, ha⟩
  · subst v2
    refine ok_br.mpr ⟨fun _ => bad, fun z => absurd rfl (of_decide_eq_false z)⟩
  subst v2
  rcases v3 with v3 | ⟨b, tr, v3, lb, h6b, hb⟩
  · subst v3
    refine ok_br.mpr ⟨fun _ => bad, fun _ => ok_br.mpr ⟨fun _ => bad, fun z => absurd rfl (of_decide_eq_false z)⟩⟩
  subst v3
  rw [I_neg, decE (by omega) (by omega) (by omega) (by omega), decide_eq_false (by omega), br_fq, decE (by omega) (by omega) (by omega) (by omega), decide_eq_false (by omega), br_fq]
  obtain ⟨fl, sl, zl, hsl⟩ := SZ_lst hg g1 (LST_so la h6)
  obtain ⟨fq, sq, zq⟩ := HP_sz hg g0
  have hpw : ∀ w, FR [] [] [168] [141] v' w → hp w p = hp v' p := fun w fw => by unfold hp; rw [fw.2.2.2 88 (by decide)]
  have w133 : ∀ w, FR [] [] [168] [141] v' w → F w 133 = p := fun w fw => by rw [FR.F fw (by decide)]; exact i.2.2.1
  have tops : ∀ w (j : Nat), FR [] [] [168] [141] v' w → j < 2 → fm_M_top N w (I j) = some (w, v'.2.2.2 91 (46000 * p + (ro (fr - 1) + tH T q - 1 - j))) := fun w j fw hj => by
    rw [top_e (w133 w fw) (opM := ro (fr - 1) + tH T q) (by rw [FR.A fw (by decide)]; exact i.2.2.2.2.2.2.2.2.2.1.1) x4 (by omega) (by omega), fw.2.2.2 91 (by decide)]
  have L4 : ∀ (k j V : Nat) (w : MS) (M : Nat), j + k = V → V ≤ a → k < M → FR [] [] [168] [141] v' w → OK (fun y _ => RES Fv P PR T C ND CN p mu v' y) ((gg_M_lessened N M).2.2.2 w (I ((V : Int) - 1)) (I ((kn (A w 168) j : Nat) : Int)) (I j)) := by
    intro k
    induction k with
    | zero =>
      intro j V w M hj hV hM fw
      obtain rfl : j = V := by omega
      obtain ⟨M, rfl⟩ : ∃ M', M = M' + 1 := ⟨M - 1, by omega⟩
      show OK _ (fb_M_lessened_222 N (gg_M_lessened N M) w (I ((j : Int) - 1)) (I ((kn (A w 168) j : Nat) : Int)) (I j))
      unfold fb_M_lessened_222
      rw [decL (by omega) (by omega) (by omega) (by omega), decide_eq_true (by omega), br_tq, lt_e, lit1q, wi_e]
      have f2 : FR [169] [] [168] [141] v' (wi w 169 1) := FR.wi (FR.mo fw (by decide) (by decide) (by decide) (by decide)) (by decide)
      have e9 : F (wi w 169 1) 169 = 1 := by rw [F_wi (by omega) (by omega), if_pos rfl]
      have e8 : A (wi w 169 1) 168 = A w 168 := rfl
      rw [← e8]
      generalize wi w 169 1 = w2 at *
      have hpw : hp w2 p = hp v' p := by unfold hp; rw [f2.2.2.2 88 (by decide)]
      have j91 : w2.2.2.2 91 = v'.2.2.2 91 := f2.2.2.2 91 (by decide)
      have iw : MEI Fv P PR w2 p n ow kd (ro (fr - 1) + tH T q) (rn (fr - 1) + rh (fr - 1) + tM T q) bxM := MEI_fr i f2 (by decide) (by decide) (by decide) (by decide) (by decide) (by decide) (by decide) (by decide) (by decide) (by decide) (by decide) (by decide) (by decide) (by decide) (by decide) (by decide) (by decide) (by decide)
      have ew := ERX_fr e f2 (by decide) (by decide) (by decide) iw (by omega) (Nat.le_refl _)
      obtain ⟨t', l'⟩ := LST_pre a j _ _ la hV
      rw [I_add, show (j : Int) - 1 + 1 = (j : Int) from by omega, show (2 : Int32) = I 2 from rfl, I_mul, show (2 : Int) * ((kn (A w2 168) j : Nat) : Int) = ((2 * kn (A w2 168) j : Nat) : Int) from by omega]
      exact ok_bnd.mpr (ok_mono (anew_ok (N := N) (K := kn (A w2 168) j) (a := j) (f := fl) (sl := sl) (t := t') (m := m) ew (PGM_fr hp' f2 (by decide) (by decide)) hq hm hx (by rw [FR.A f2 (by decide)]; exact h98) (by omega) (by omega) rfl (by rw [hpw, j91]; exact l') (by rw [hpw, j91]; exact zl) (Or.inr ⟨by rw [e9]; decide, fun _ => hsl⟩)) (fun y _ hy => ok_some.mpr (RES.pre f2 (OTF_fr f2 (by decide)) (by decide) (by decide) (by decide) (by decide) hy)))
    | succ k ih =>
      intro j V w M hj hV hM fw
      obtain ⟨M, rfl⟩ : ∃ M', M = M' + 1 := ⟨M - 1, by omega⟩
      have kl := kn_le (g := A w 168) j
      have kst := kn_s (g := A w 168) (k := j)
      show OK _ (fb_M_lessened_222 N (gg_M_lessened N M) w (I ((V : Int) - 1)) (I ((kn (A w 168) j : Nat) : Int)) (I j))
      unfold fb_M_lessened_222
      rw [decL (by omega) (by omega) (by omega) (by omega), decide_eq_false (by omega), br_fq]
      refine ok_ck.mpr ⟨inb_at (k := 168) (n := 500) rfl (by omega) (by omega) (by decide), ?_⟩
      have r168 := A_r w 168 j
      unfold fb_M_lessened_247
      rw [I_tn (x := (j : Int)) (by omega) (by omega), Int.toNat_natCast, I_A (k := 168), lit0q, decE r168.1 r168.2 (by omega) (by omega), lit1q, I_add, I_add, show (j : Int) + 1 = ((j + 1 : Nat) : Int) from by omega]
      have := ih (j + 1) V w M (by omega) hV (by omega) fw
      refine ok_br.mpr ⟨fun z => ?_, fun z => ?_⟩
      · rw [if_pos (of_decide_eq_true z)] at kst
        rw [show ((kn (A w 168) j : Nat) : Int) + 1 = ((kn (A w 168) (j + 1) : Nat) : Int) from by omega]
        exact this
      · rw [if_neg (of_decide_eq_false z)] at kst
        rw [show ((kn (A w 168) j : Nat) : Int) = ((kn (A w 168) (j + 1) : Nat) : Int) from by omega]
        exact this
  have L2 : ∀ (k j V : Nat) (w : MS) (M : Nat) (x : Int64) (f s : Nat), j + k = b → V ≤ a → k * (a + 4) + a + 10 ≤ M → FR [] [] [168] [141] v' w → LST (hp v' p) k x tr → SZ (hp v' p) n ow kd Fv P f x s → OK (fun y _ => RES Fv P PR T C ND CN p mu v' y) ((gg_M_lessened N M).2.1 w (I a) (I b) (I ((V : Int) - 1)) (I 0) x (I j)) := by
    intro k
    induction k with
    | zero =>
      intro j V w M x f s hj hV hM fw l z
      obtain rfl : j = b := by omega
      obtain ⟨M, rfl⟩ : ∃ M', M = M' + 1 := ⟨M - 1, by omega⟩
      show OK _ (fb_M_lessened_72 N (gg_M_lessened N M) w (I a) (I j) (I ((V : Int) - 1)) (I 0) x (I j))
      unfold fb_M_lessened_72
      rw [decI (by omega) (by omega) (by omega) (by omega), decide_eq_true (by omega), br_tq]
      exact L4 V 0 V w M (by omega) hV (by omega) fw
    | succ k ih =>
      intro j V w M x f s hj hV hM fw l z
      obtain ⟨M, rfl⟩ : ∃ M', M = M' + 1 := ⟨M - 1, by omega⟩
      obtain ⟨f', sa, sb, y1, y2, y3, y4, y5, y6, y7⟩ := LST_sz l z
      have hM' : k * (a + 4) + a + 10 + (a + 3) ≤ M := by rw [Nat.succ_mul] at hM; omega
      have inner : ∀ (kk jj V : Nat) (w : MS) (M : Nat) (xl : Int64) (f s fg : Nat), jj + kk = a → V ≤ a → k * (a + 4) + a + 10 + (kk + 1) ≤ M → FR [] [] [168] [141] v' w → LST (hp v' p) kk xl tl → SZ (hp v' p) n ow kd Fv P f xl s → fg ≤ 1 → OK (fun y _ => RES Fv P PR T C ND CN p mu v' y) ((gg_M_lessened N M).2.2.1 w (I a) (I b) (I ((V : Int) - 1)) (I 0) (hp v' p (vn x + 1)) (I j) (hp v' p (vn x)) xl (I jj) (I fg)) := by
        intro kk
        induction kk with
        | zero =>
          intro jj V w M xl f s fg hj2 hV hM fw l z hfg
          obtain rfl : jj = a := by omega
          obtain ⟨M, rfl⟩ : ∃ M', M = M' + 1 := ⟨M - 1, by omega⟩
          show OK _ (fb_M_lessened_123 N (gg_M_lessened N M) w (I jj) (I b) (I ((V : Int) - 1)) (I 0) (hp v' p (vn x + 1)) (I j) (hp v' p (vn x)) xl (I jj) (I fg))
          unfold fb_M_lessened_123 fb_M_lessened_213
          rw [decI (by omega) (by omega) (by omega) (by omega), decide_eq_true (by omega), br_tq, lit1q, I_add, show (j : Int) + 1 = ((j + 1 : Nat) : Int) from by omega]
          exact ih (j + 1) V w M _ f' sb (by omega) hV (by omega) fw y5 y3
        | succ kk ih2 =>
          intro jj V w M xl f s fg hj2 hV hM fw l z hfg
          obtain ⟨M, rfl⟩ : ∃ M', M = M' + 1 := ⟨M - 1, by omega⟩
          obtain ⟨f'', sa', sb', q1, q2, q3, q4, q5, q6, q7⟩ := LST_sz l z
          have hpw' := hpw w fw
          show OK _ (fb_M_lessened_123 N (gg_M_lessened N M) w (I a) (I b) (I ((V : Int) - 1)) (I 0) (hp v' p (vn x + 1)) (I j) (hp v' p (vn x)) xl (I jj) (I fg))
          have nxl : ∀ (w : MS) (V fg : Nat), V ≤ a → fg ≤ 1 → FR [] [] [168] [141] v' w → OK (fun y _ => RES Fv P PR T C ND CN p mu v' y) (fb_M_lessened_190 N (gg_M_lessened N M) w (I a) (I b) (I ((V : Int) - 1)) (I 0) (hp v' p (vn x + 1)) (I j) (hp v' p (vn x)) xl (I jj) (I fg)) := fun w V fg hV hfg fw => by
            unfold fb_M_lessened_190
            rw [valueOf_e, bnd_so, I_F' (w133 w fw), q6, lit1q, I_add, show (vn xl : Int) + 1 = ((vn xl + 1 : Nat) : Int) from by omega, cell_e (by omega) (by omega), bnd_so, I_add, show (jj : Int) + 1 = ((jj + 1 : Nat) : Int) from by omega, hpw w fw]
            exact ih2 (jj + 1) V w M _ f'' sb' fg (by omega) hV (by omega) fw q5 q3 hfg
          unfold fb_M_lessened_123
          have out : OK (fun y _ => RES Fv P PR T C ND CN p mu v' y) (fb_M_lessened_213 N (gg_M_lessened N M) w (I a) (I b) (I ((V : Int) - 1)) (I 0) (hp v' p (vn x + 1)) (I j)) := by
            unfold fb_M_lessened_213
            rw [lit1q, I_add, show (j : Int) + 1 = ((j + 1 : Nat) : Int) from by omega]
            exact ih (j + 1) V w M _ f' sb (by omega) hV (by omega) fw y5 y3
          rw [decI (by omega) (by omega) (by omega) (by omega), decide_eq_false (by omega), br_fq]
          refine ok_br.mpr ⟨fun _ => out, fun _ => ok_ck.mpr ⟨inb_at (k := 168) (n := 500) rfl (by omega) (by omega) (by decide), ok_br.mpr ⟨fun _ => ?_, fun _ => nxl w V fg hV hfg fw⟩⟩⟩
          rw [valueOf_e, bnd_so, I_F' (w133 w fw), q6, cell_e (by omega) (by omega), bnd_so, hpw']
          have hpg := PGM_fr hp' fw (by decide) (by decide)
          refine ok_bnd.mpr (ok_mono (order_ok (N := N) (Fv := Fv) (P := P) (n := n) (ow := ow) (kd := kd) n500 x4 hpg.2.2.1 hpg.2.2.2.1 hpg.2.2.2.2 (w133 w fw) (by rw [hpw']; exact hg) (SZ_gt q2) (SZ_gt y2) (by omega)) (fun w7 r7 f7 => ?_))
          have fw7 : FR [] [] [168] [141] v' w7 := FR.tr fw (FR.mo f7 (by decide) (by decide) (by decide) (by decide))
          refine ok_br.mpr ⟨fun _ => ok_ck.mpr ⟨inb_at (k := 168) (n := 500) rfl (by omega) (by omega) (by decide), ok_lt.mpr ?_⟩, fun _ => nxl w7 V fg hV hfg fw7⟩
          rw [I_tn (x := (jj : Int)) (by omega) (by omega), Int.toNat_natCast, nar1, wa_e]
          have fw8 : FR [] [] [168] [141] v' (wa w7 168 jj 1) := FR.wa fw7 (by decide)
          unfold fb_M_lessened_186
          rw [show (0 : Int32) = I ((0 : Nat) : Int) from rfl]
          refine ok_br.mpr ⟨fun _ => nxl _ V 0 hV (by omega) fw8, fun _ => ?_⟩
          have := nxl (wa w7 168 jj 1) (jj + 1) 0 (by omega) (by omega) fw8
          rw [show ((jj + 1 : Nat) : Int) - 1 = (jj : Int) from by omega] at this
          exact this
      show OK _ (fb_M_lessened_72 N (gg_M_lessened N M) w (I a) (I b) (I ((V : Int) - 1)) (I 0) x (I j))
      unfold fb_M_lessened_72
      rw [decI (by omega) (by omega) (by omega) (by omega), decide_eq_false (by omega), br_fq, valueOf_e, bnd_so, I_F' (w133 w fw), y6, cell_e (by omega) (by omega), bnd_so, valueOf_e, bnd_so, I_F' (w133 w fw), y6, show (1 : Int32) = I ((1 : Nat) : Int) from rfl, I_add, show (vn x : Int) + ((1 : Nat) : Int) = ((vn x + 1 : Nat) : Int) from by omega, cell_e (by omega) (by omega), bnd_so, tops w 1 fw (by omega), bnd_so, hpw w fw, show ro (fr - 1) + tH T q - 1 - 1 = ro (fr - 1) + tH T q - 2 from by omega]
      exact inner a 0 V w M _ fl sl 1 (by omega) hV (by omega) fw la zl (by omega)
  have L1 : ∀ (k j : Nat) (w : MS) (M : Nat), j + k = a → k + b * (a + 4) + a + 12 ≤ M → FR [] [] [168] [141] v' w → OK (fun y _ => RES Fv P PR T C ND CN p mu v' y) ((gg_M_lessened N M).1 w (I a) (I b) (I j)) := by
    intro k
    induction k with
    | zero =>
      intro j w M hj hM fw
      obtain rfl : j = a := by omega
      obtain ⟨M, rfl⟩ : ∃ M', M = M' + 1 := ⟨M - 1, by omega⟩
      show OK _ (fb_M_lessened_39 N (gg_M_lessened N M) w (I j) (I b) (I j))
      unfold fb_M_lessened_39
      rw [decI (by omega) (by omega) (by omega) (by omega), decide_eq_true (by omega), br_tq, show (0 : Int32) = I ((0 : Nat) : Int) from rfl, tops w 0 fw (by omega), bnd_so, show ro (fr - 1) + tH T q - 1 - 0 = ro (fr - 1) + tH T q - 1 from by omega]
      exact L2 b 0 0 w M _ fq sq (by omega) (by omega) (by omega) fw lb zq
    | succ k ih =>
      intro j w M hj hM fw
      obtain ⟨M, rfl⟩ : ∃ M', M = M' + 1 := ⟨M - 1, by omega⟩
      show OK _ (fb_M_lessened_39 N (gg_M_lessened N M) w (I a) (I b) (I j))
      unfold fb_M_lessened_39
      rw [decI (by omega) (by omega) (by omega) (by omega), decide_eq_false (by omega), br_fq]
      refine ok_ck.mpr ⟨inb_at (k := 168) (n := 500) rfl (by omega) (by omega) (by decide), ok_lt.mpr ?_⟩
      rw [I_tn (x := (j : Int)) (by omega) (by omega), Int.toNat_natCast, nar0, wa_e, lit1q, I_add, show (j : Int) + 1 = ((j + 1 : Nat) : Int) from by omega]
      exact ih (j + 1) _ M (by omega) (by omega) (FR.wa fw (by decide))
  refine L1 a 0 v' N (by omega) ?_ FR.rf
  have : b * (a + 4) ≤ 500 * 504 := Nat.mul_le_mul hb (by omega)
  omega
end
end
section
section
variable {Fv : Int64 → Int64 → Prop} {P : Int64 → Prop} {u v w w2 : MS} {PR N p n n2 opM bnM bxM bx2 ND fr k tp mu CN PN SN UN FN rq q m h mm : Nat} {ow kd ow2 kd2 ro rn rh cb pc ct pM pE : Nat → Nat} {T : TY} {C : CY}
theorem w64_0 {x : Int} (h1 : -2147483648 ≤ x) (h2 : x < 2147483648) (h0 : x ≠ 0) : (I x).toInt64 ≠ 0 := fun z => by
  have := congrArg Int64.toInt32 z
  rw [Int32.toInt32_toInt64] at this
  exact h0 ((I_eq h1 h2 (by omega) (by omega)).mp (this.trans (show (0 : Int64).toInt32 = I 0 from rfl)))
theorem i6 {a : Int} (e : ERX Fv P PR T C ND CN p u fr ro rn rh cb pc ct q n ow kd (ro (fr - 1) + tH T q) (rn (fr - 1) + rh (fr - 1) + tM T q) bxM mu) (hp' : PGM Fv P PR T C pM pE ND CN PN SN UN FN u) (hq : tB T q + 2 ≤ tH T q) (hm : m < ND) (hx : NX T q m (tH T q - 1) (tM T q)) (h98 : A u 98 (60 * p + (fr - 1)) = ((m : Nat) : Int)) (ha : 100 ≤ a ∨ (12 ≤ a ∧ a ≤ 20) ∨ a = 22 ∨ a = 23) (ha2 : a < 2147483648) (hN : 11000000 ≤ N) : OK (fun v _ => RES Fv P PR T C ND CN p mu u v) (fm_M_twoRun N u (I a)) := by
  have i := e.1
  have x4 := MEI_p i
  have hH := (hp'.1.2.2.1 q e.2.2.1).1.1
  have hf := e.2.1.1
  have hro := (e.2.1.2.2.1 (fr - 1) (by omega)).2.2.2.2.1
  have e' := e
  rw [show ro (fr - 1) + tH T q = ro (fr - 1) + (tH T q - 2) + 1 + 1 from by omega] at e'
  have two : ∀ (g : MS → Int64 → Int64 → Option (MS × Unit)), (∀ v t1 t2, ERX Fv P PR T C ND CN p v fr ro rn rh cb pc ct q n ow kd (ro (fr - 1) + (tH T q - 2)) (rn (fr - 1) + rh (fr - 1) + tM T q) bxM mu → GT n ow kd P t1 → GT n ow kd P t2 → FR [] [] [92] [] u v → OTF p u v → OK (fun y _ => RES Fv P PR T C ND CN p mu u y) (g v t1 t2)) → OK (fun y _ => RES Fv P PR T C ND CN p mu u y) (bnd (fm_M_take N u) (fun u7 r7 => bnd (fm_M_take N u7) (fun u8 r8 => g u8 r7 r8))) := fun g hg => by
    refine ok_bnd.mpr (ok_mono (takeE (N := N) e' (by omega)) (fun v r hv => ?_))
    obtain ⟨v1, v2, v3, v4⟩ := hv
    refine ok_bnd.mpr (ok_mono (takeE (N := N) v1 (by omega)) (fun w r2 hw => ?_))
    obtain ⟨w1, w2, w3, w4⟩ := hw
    exact hg w r r2 w1 v2 w2 (FR.tr v3 w3) (OTF.tr v4 w4)
  have pt : ∀ v t, ERX Fv P PR T C ND CN p v fr ro rn rh cb pc ct q n ow kd (ro (fr - 1) + (tH T q - 2)) (rn (fr - 1) + rh (fr - 1) + tM T q) bxM mu → GT n ow kd P t → FR [] [] [92] [141] u v → OTF p u v → OK (fun y _ => RES Fv P PR T C ND CN p mu u y) (bnd (fm_M_put N v t) (fun u2 _ => fb_M_twoRun_327 N () u2)) := fun v t ev gt fv ov => by
    unfold fb_M_twoRun_327
    exact ok_bnd.mpr (ok_mono (putR (N := N) ev hm hx (by rw [FR.A fv (by decide)]; exact h98) (by omega) rfl gt (by omega)) (fun y _ hy => ok_some.mpr (RES.pre fv ov (by decide) (by decide) (by decide) (by decide) hy)))
  have er : ∀ v, ERX Fv P PR T C ND CN p v fr ro rn rh cb pc ct q n ow kd (ro (fr - 1) + (tH T q - 2)) (rn (fr - 1) + rh (fr - 1) + tM T q) bxM mu → FR [] [] [92] [] u v → OTF p u v → OK (fun y _ => RES Fv P PR T C ND CN p mu u y) (fr_M_error N v 12) := fun v ev fv ov =>
    ok_mono (err_ok (N := N) (a := 12) ev (PGM_fr hp' fv (by decide) (by decide)) (by omega) (by omega)) (fun y _ hy => RES.pre fv ov (by decide) (by decide) (by decide) (by decide) hy)
  have X : 17 < a → OK (fun y _ => RES Fv P PR T C ND CN p mu u y) (fb_M_twoRun_147 N () u (I a)) := fun ha17 => by
    unfold fb_M_twoRun_147
    rw [show (22 : Int32) = I 22 from rfl, show (23 : Int32) = I 23 from rfl, show (100 : Int32) = I 100 from rfl, decE (by omega) (by omega) (by omega) (by omega), decE (by omega) (by omega) (by omega) (by omega), decL (by omega) (by omega) (by omega) (by omega)]
    refine ok_br.mpr ⟨fun _ => ?_, fun z22 => ok_br.mpr ⟨fun _ => ?_, fun z23 => ?_⟩⟩
    · unfold fb_M_twoRun_327
      exact ok_bnd.mpr (ok_mono (joined_ok (N := N) e hp' hq hm hx h98 (by omega)) (fun y _ hy => ok_some.mpr hy))
    · unfold fb_M_twoRun_327
      exact ok_bnd.mpr (ok_mono (lessened_ok (N := N) e hp' hq hm hx h98 hN) (fun y _ hy => ok_some.mpr hy))
    have z22' := of_decide_eq_false z22
    have z23' := of_decide_eq_false z23
    refine two (fun u8 r7 r8 => _) (fun v t1 t2 ev g1 g2 fv ov => ?_)
    have no : OK (fun y _ => RES Fv P PR T C ND CN p mu u y) (fb_M_twoRun_212 N () v) := by
      unfold fb_M_twoRun_212
      exact ok_bnd.mpr (ok_mono (er v ev fv ov) (fun y _ hy => ok_some.mpr hy))
    have y295 : ∀ t0 : Int64, OK (fun y _ => RES Fv P PR T C ND CN p mu u y) (fb_M_twoRun_295 N () v t0) := fun t0 => by
      unfold fb_M_twoRun_295
      rw [term0_e, bnd_so]
      refine ok_br.mpr ⟨fun _ => pt v _ ev (GT_int hp'.2.1) (FR.mo fv (by decide) (by decide) (by decide) (by decide)) ov, fun _ => ?_⟩
      unfold fb_M_twoRun_327
      exact ok_bnd.mpr (ok_mono (er v ev fv ov) (fun y _ hy => ok_some.mpr hy))
    have r1 := va_r t1
    have y219 : (a < 100 ∨ va t1 ≠ 0) → OK (fun y _ => RES Fv P PR T C ND CN p mu u y) (fb_M_twoRun_219 N () v (I a) t1 t2) := fun hz => by
      unfold fb_M_twoRun_219
      rw [valueOf_e, bnd_so, valueOf_e, bnd_so, show (18 : Int32) = I 18 from rfl, show (19 : Int32) = I 19 from rfl, show (20 : Int32) = I 20 from rfl, decE (by omega) (by omega) (by omega) (by omega), decE (by omega) (by omega) (by omega) (by omega), decE (by omega) (by omega) (by omega) (by omega)]
      refine ok_br.mpr ⟨fun _ => y295 _, fun z18 => ok_br.mpr ⟨fun _ => y295 _, fun z19 => ok_br.mpr ⟨fun _ => y295 _, fun z20 => ?_⟩⟩⟩
      have := of_decide_eq_false z18
      have := of_decide_eq_false z19
      have := of_decide_eq_false z20
      have nz := w64_0 r1.1 r1.2 (show va t1 ≠ 0 from by omega)
      exact ok_br.mpr ⟨fun _ => ok_ck.mpr ⟨decide_eq_true nz, y295 _⟩, fun _ => ok_ck.mpr ⟨decide_eq_true nz, y295 _⟩⟩
    show OK _ (bnd (fm_M_sortOf N v t2) _)
    rw [sortOf_e, bnd_so]
    refine ok_br.mpr ⟨fun _ => ?_, fun _ => no⟩
    rw [sortOf_e, bnd_so]
    refine ok_br.mpr ⟨fun _ => ok_br.mpr ⟨fun z => y219 (Or.inl (of_decide_eq_true z)), fun _ => ?_⟩, fun _ => no⟩
    rw [valueOf_e, bnd_so, lit0q, decE r1.1 r1.2 (by omega) (by omega)]
    exact ok_br.mpr ⟨fun _ => no, fun z => y219 (Or.inr (of_decide_eq_false z))⟩
  unfold fm_M_twoRun fb_M_twoRun_0
  rw [show (12 : Int32) = I 12 from rfl, show (17 : Int32) = I 17 from rfl, decL (by omega) (by omega) (by omega) (by omega), decL (by omega) (by omega) (by omega) (by omega)]
  refine ok_br.mpr ⟨fun z => by have := of_decide_eq_true z; omega, fun _ => ok_br.mpr ⟨fun z => X (of_decide_eq_true z), fun _ => ?_⟩⟩
  refine two (fun u17 r16 r17 => _) (fun v t1 t2 ev g1 g2 fv ov => ?_)
  show OK _ (bnd (fm_M_order N v t2 t1) _)
  have hpg := PGM_fr hp' fv (by decide) (by decide)
  refine ok_bnd.mpr (ok_mono (order_ok (N := N) (Fv := Fv) (P := P) (n := n) (ow := ow) (kd := kd) ev.1.2.2.2.2.2.2.2.1 x4 hpg.2.2.1 hpg.2.2.2.1 hpg.2.2.2.2 ev.1.2.2.1 ev.1.2.2.2.2.2.2.1 g2 g1 (by omega)) (fun w r fw => ?_))
  have fu : FR [] [] [92] [141] u w := FR.tr (FR.mo fv (by decide) (by decide) (by decide) (by decide)) (FR.mo fw (by decide) (by decide) (by decide) (by decide))
  have ou : OTF p u w := OTF.tr ov (OTF_fr fw (by decide))
  have iw := MEI_fr ev.1 fw (by decide) (by decide) (by decide) (by decide) (by decide) (by decide) (by decide) (by decide) (by decide) (by decide) (by decide) (by decide) (by decide) (by decide) (by decide) (by decide) (by decide) (by decide)
  have ew := ERX_fr ev fw (by decide) (by decide) (by decide) iw (by omega) (Nat.le_refl _)
  have p1 : OK (fun y _ => RES Fv P PR T C ND CN p mu u y) (fb_M_twoRun_138 N () w 1) := by
    unfold fb_M_twoRun_138
    rw [truth1, bnd_so]
    exact pt w _ ew (GT_atom hp'.2.1 (by omega)) fu ou
  have p0 : OK (fun y _ => RES Fv P PR T C ND CN p mu u y) (fb_M_twoRun_138 N () w 0) := by
    unfold fb_M_twoRun_138
    rw [truth0, bnd_so]
    exact pt w _ ew (GT_atom hp'.2.1 (by omega)) fu ou
  exact ok_br.mpr ⟨fun _ => ok_br.mpr ⟨fun _ => p1, fun _ => p0⟩, fun _ => ok_br.mpr ⟨fun _ => ok_br.mpr ⟨fun _ => p0, fun _ => p1⟩, fun _ => ok_br.mpr ⟨fun _ => ok_br.mpr ⟨fun _ => p0, fun _ => p1⟩, fun _ => ok_br.mpr ⟨fun _ => ok_br.mpr ⟨fun _ => p0, fun _ => p1⟩, fun _ => ok_br.mpr ⟨fun _ => ok_br.mpr ⟨fun _ => p0, fun _ => p1⟩, fun _ => ok_br.mpr ⟨fun _ => p0, fun _ => p1⟩⟩⟩⟩⟩⟩
end
end
section
section
variable {Fv : Int64 → Int64 → Prop} {P : Int64 → Prop} {u v w w2 : MS} {PR N p n n2 opM bnM bxM bx2 ND fr k tp mu CN PN SN UN FN rq q m h mm : Nat} {ow kd ow2 kd2 ro rn rh cb pc ct pM pE : Nat → Nat} {T : TY} {C : CY}
def nix (rn rh : Nat) (c : Int) : Nat := if 0 ≤ c then rn + (rh + c.toNat) else rn + (-2 - c).toNat
theorem nix_lt {rn rh m : Nat} {c : Int} (hc : (0 ≤ c ∧ c < m) ∨ (c ≤ -2 ∧ -2 - c < rh)) : nix rn rh c < rn + rh + m := by
  unfold nix
  split <;> omega
theorem frame0_x (h0 : F w 133 = p) (hp : p < 24) (h1 : A w 95 p = ((fr : Nat) : Int)) (h2 : 1 ≤ fr ∧ fr ≤ 60) : fm_M_frame0 N w = some (w, I ((60 * p + (fr - 1) : Nat) : Int)) := by
  unfold fm_M_frame0 fb_M_frame0_0
  rw [I_F' h0, inb_at (k := 95) (n := 24) rfl (by omega) (by omega) (by decide), ck_t, I_tn (x := (p : Int)) (by omega) (by omega), Int.toNat_natCast, I_A' h1, show (60 : Int32) = I 60 from rfl, I_mul, I_add, lit1q, I_sub, show (p : Int) * 60 + (fr : Int) - 1 = ((60 * p + (fr - 1) : Nat) : Int) from by omega]
theorem nameAt_e {rn rh m : Nat} {c : Int} (h0 : F w 133 = p) (hp : p < 24) (h1 : A w 95 p = ((fr : Nat) : Int)) (h2 : 1 ≤ fr ∧ fr ≤ 60) (f4 : A w 99 (60 * p + (fr - 1)) = ((rn : Nat) : Int)) (f5 : A w 101 (60 * p + (fr - 1)) = ((rh : Nat) : Int)) (hb : rn + rh + m ≤ 2500) (hc : (0 ≤ c ∧ c < m) ∨ (c ≤ -2 ∧ -2 - c < rh)) : fm_M_nameAt N w (I c) = some (w, w.2.2.2 93 (2500 * p + nix rn rh c)) := by
  unfold fm_M_nameAt fb_M_nameAt_0 fb_M_nameAt_43 nix
  rw [frame0_x h0 hp h1 h2, bnd_so, inb_at (k := 99) (n := 1440) rfl (by omega) (by omega) (by decide), ck_t, lit0q, decI (by omega) (by omega) (by omega) (by omega), I_tn (x := ((60 * p + (fr - 1) : Nat) : Int)) (by omega) (by omega), Int.toNat_natCast, I_A' f4, I_F' h0, show (2500 : Int32) = I 2500 from rfl, I_mul, I_add, show isK 93 5 = true from by decide, ck_t, ck_t]
  by_cases e : 0 ≤ c
  · rw [decide_eq_true e, br_tq, inb_at (k := 101) (n := 1440) rfl (by omega) (by omega) (by decide), ck_t, I_A' f5, I_add, I_add, inb_at (k := 93) (n := 60000) rfl (by omega) (by omega) (by decide), ck_t, I_tn (by omega) (by omega), if_pos e]
    rw [show ((p : Int) * 2500 + (rn : Int) + ((rh : Int) + c)).toNat = 2500 * p + (rn + (rh + c.toNat)) from by omega]
  · rw [decide_eq_false e, br_fq, show (-2 : Int32) = I (-2) from rfl, I_sub, I_add, inb_at (k := 93) (n := 60000) rfl (by omega) (by omega) (by decide), ck_t, I_tn (by omega) (by omega), if_neg e]
    rw [show ((p : Int) * 2500 + (rn : Int) + (-2 - c)).toNat = 2500 * p + (rn + (-2 - c).toNat) from by omega]
theorem nameAt_x {is ls as js : List Nat} {c : Int} (e : ERX Fv P PR T C ND CN p u fr ro rn rh cb pc ct q n ow kd opM bnM bxM mu) (f : FR is ls as js u w) (h133 : 133 ∉ is) (h95 : 95 ∉ as) (h99 : 99 ∉ as) (h101 : 101 ∉ as) (hc : NCO c (tM T q) (tL T q)) : fm_M_nameAt N w (I c) = some (w, w.2.2.2 93 (2500 * p + nix (rn (fr - 1)) (rh (fr - 1)) c)) ∧ nix (rn (fr - 1)) (rh (fr - 1)) c < bnM := by
  have hf := e.2.1.1
  have hro := (e.2.1.2.2.1 (fr - 1) (by omega))
  have hl := e.2.2.2.1
  have b8 := e.2.2.2.2.2.2.2.1
  have bb : bnM ≤ 2500 := e.1.2.2.2.2.2.2.2.2.2.2.1.2
  unfold NCO at hc
  rw [← hl] at hc
  have := nix_lt (rn := rn (fr - 1)) hc
  exact ⟨nameAt_e (m := tM T q) (by rw [FR.F f h133]; exact e.1.2.2.1) (MEI_p e.1) (by rw [FR.A f h95]; exact hf.2.2) ⟨hf.1, hf.2.1⟩ (by rw [FR.A f h99]; exact hro.2.1) (by rw [FR.A f h101]; exact hro.2.2.1) (by omega) hc, by omega⟩
set_option maxRecDepth 100000 in
theorem fun2 {h x b0 : Nat} {v3 : Int32} {a0 : Int64} (e : ERX Fv P PR T C ND CN p v fr ro rn rh cb pc ct q n ow kd opM bnM bxM mu) (hH : tH T q ≤ 760) (hm : m < ND) (hx : NX T q m (tH T q + 1) (tM T q)) (h98 : A v 98 (60 * p + (fr - 1)) = ((m : Nat) : Int)) (ho : opM = ro (fr - 1) + tH T q) (hb : bnM = rn (fr - 1) + rh (fr - 1) + tM T q) (hh : h ≤ 40) (hv : 0 < h → v3 = I x ∧ x < 1400 ∧ A v 55 x = ((b0 : Nat) : Int) ∧ b0 + h ≤ 24000) (hnc : ∀ j, j < h → NCO (A v 57 (b0 + j)) (tM T q) (tL T q)) (hF : ∀ b, va b = h → Fv a0 b) (h5 : n + (2 + h) ≤ 500)
    (hs : ∀ f c, (∀ j, j < h → SZ (hp v p) n ow kd Fv P f (v.2.2.2 93 (2500 * p + nix (rn (fr - 1)) (rh (fr - 1)) (A v 57 (b0 + j)))) (c j)) → 2 + h + smm c 0 h ≤ 500) : ∀ k j w M, j + k = h → k < M → FR [] [] [89] [88] v w → (∀ z, A w 89 z = if z = p then ((n + (2 + h) : Nat) : Int) else A v 89 z) → hp w p n = a0 → hp w p (n + 1) = (I h).toInt64 → (∀ i, i < j → hp w p (n + (2 + i)) = v.2.2.2 93 (2500 * p + nix (rn (fr - 1)) (rh (fr - 1)) (A v 57 (b0 + i)))) → (∀ i, ¬ (500 * p + n ≤ i ∧ i < 500 * p + n + (2 + h)) → w.2.2.2 88 i = v.2.2.2 88 i) → OK (fun w2 _ => RES Fv P PR T C ND CN p mu v w2) ((gg_M_funRun N M).2 w v3 (I h) (I n) (I j)) := by
  have i := e.1
  have x4 := MEI_p i
  have hf := e.2.1.1
  have hro := (e.2.1.2.2.1 (fr - 1) (by omega)).2.2.2.2.1
  have hBq := e.2.2.2.2.2.2.1
  obtain ⟨m1, m2, m3, m4, m5, ⟨x1, x2, x3, x4', x5, x6, x7, x8, x9, x10, x11⟩⟩ := id i
  intro k
  induction k with
  | zero =>
    intro j w M hj hM f h89 c0 c1 cj out
    obtain rfl : j = h := by omega
    obtain ⟨M, rfl⟩ : ∃ M', M = M' + 1 := ⟨M - 1, by omega⟩
    show OK _ (fb_M_funRun_202 N (gg_M_funRun N M) w v3 (I j) (I n) (I j))
    unfold fb_M_funRun_202
    rw [decI (by omega) (by omega) (by omega) (by omega), decide_eq_true (by omega), br_tq, show (3 : Int32) = I 3 from rfl, term_e, bnd_so]
    have e5 : so (mk 3 (n : Int)) = 3 := so_mk (by omega) (by omega)
    have v5 : va (mk 3 (n : Int)) = n := va_mk (by omega) (by omega)
    have n5 : vn (mk 3 (n : Int)) = n := by unfold vn; rw [v5]; omega
    have vc : va (I (j : Int)).toInt64 = (j : Int) := by rw [va_w, I_ti (by omega) (by omega)]
    have bb : blk (hp w p) (mk 3 (n : Int)) = 2 + j := by unfold blk; rw [e5, n5, c1]; simp; unfold vn; rw [vc]; omega
    have pp : prt (mk 3 (n : Int)) = 2 := by unfold prt; rw [e5]; rfl
    have cc : ∀ i, 2 ≤ i → i < 2 + j → hp w p (n + i) = v.2.2.2 93 (2500 * p + nix (rn (fr - 1)) (rh (fr - 1)) (A v 57 (b0 + (i - 2)))) := fun i h1 h2 => by
      have := cj (i - 2) (by omega)
      rw [show 2 + (i - 2) = i from by omega] at this
      exact this
    obtain ⟨ow2, kd2, r1, r2, r3, -⟩ := MEI_alloc (m := 2 + j) (x := mk 3 (n : Int)) i f h89 h5 out (Or.inl e5) (by omega) n5 bb (fun e => by omega) (fun _ => by rw [c1, c0]; exact ⟨by omega, hF _ vc⟩) (fun i h1 h2 => by rw [pp] at h1; rw [cc i h1 h2]; exact x9 _ (nameAt_x (N := N) e (FR.rf : FR [] [] [] [] v v) (by decide) (by decide) (by decide) (by decide) (hnc (i - 2) (by omega))).2) (Or.inr (fun f2 c hc => by
      rw [pp]
      have := hs f2 (fun i => c (2 + i)) (fun i hi => by have := hc (2 + i) (by rw [pp]; omega) (by omega); rw [cj i hi] at this; exact this)
      rw [smm_ext (c := c) (a := 2) (d := fun i => c (2 + i)) (b := 0) (2 + j - 2) (fun i _ => by show c (2 + i) = c (2 + (0 + i)); rw [Nat.zero_add]), show 2 + j - 2 = j from by omega]
      exact this))
    have e2 := ERX_fr e f (by decide) (by decide) (by decide) r1 (by omega) (by omega)
    exact ok_bnd.mpr (ok_mono (putR (N := N) e2 hm hx (by rw [FR.A f (by decide)]; exact h98) (by omega) hb r2 (by omega)) (fun y _ hy => ok_some.mpr (RES.pre f (OTF_fr f (by decide)) (by decide) (by decide) (by decide) (by decide) hy)))
  | succ k ih =>
    intro j w M hj hM f h89 c0 c1 cj out
    obtain ⟨M, rfl⟩ : ∃ M', M = M' + 1 := ⟨M - 1, by omega⟩
    obtain ⟨hv1, hv2, hv3, hv4⟩ := hv (by omega)
    have nm := (nameAt_x (N := N) e f (by decide) (by decide) (by decide) (by decide) (hnc j (by omega))).1
    show OK _ (fb_M_funRun_202 N (gg_M_funRun N M) w v3 (I h) (I n) (I j))
    unfold fb_M_funRun_202
    have w133 : F w 133 = p := by rw [FR.F f (by decide)]; exact m3
    have w55 : A w 55 x = ((b0 : Nat) : Int) := by rw [FR.A f (by decide)]; exact hv3
    rw [decI (by omega) (by omega) (by omega) (by omega), decide_eq_false (by omega), br_fq, hv1, inb_at (k := 55) (n := 1400) rfl (by omega) (by omega) (by decide), ck_t, I_tn (x := (x : Int)) (by omega) (by omega), Int.toNat_natCast, I_A' w55, I_add, inb_at (k := 57) (n := 24000) rfl (by omega) (by omega) (by decide), ck_t, I_tn (x := (b0 : Int) + (j : Int)) (by omega) (by omega), show ((b0 : Int) + (j : Int)).toNat = b0 + j from by omega, I_A' (show A w 57 (b0 + j) = A v 57 (b0 + j) from FR.A f (by decide)), nm, bnd_so, I_F' w133, lit500, I_mul, I_add, show (2 : Int32) = I 2 from rfl, I_add, I_add, inb_at (k := 88) (n := 12500) rfl (by omega) (by omega) (by decide), ck_t, lt_e, I_tn (by omega) (by omega), show ((p : Int) * 500 + (n : Int) + 2 + (j : Int)).toNat = 500 * p + (n + (2 + j)) from by omega, wj_e, lit1q, I_add, show (j : Int) + 1 = ((j + 1 : Nat) : Int) from by omega, f.2.2.2 93 (by decide)]
    rw [← hv1]
    refine ih (j + 1) _ M (by omega) (by omega) (FR.wj f (by decide)) h89 (by rw [hp_wj, if_neg (by omega)]; exact c0) (by rw [hp_wj, if_neg (by omega)]; exact c1) (fun i hi => ?_) (fun i hi => by rw [J_wj, if_pos rfl, if_neg (by omega)]; exact out i hi)
    rw [hp_wj]
    by_cases z : i = j
    · subst z; rw [if_pos rfl]
    · rw [if_neg (by omega)]; exact cj i (by omega)
def FVW (Fv : Int64 → Int64 → Prop) (w : MS) (UN FN : Nat) : Prop := (∀ f : Nat, f < FN → ∀ b, va b = 0 → Fv (-1 - (I f).toInt64) b) ∧ (∀ x : Nat, x < UN → ∀ b, va b = A w 54 x → Fv (I x).toInt64 b) ∧ ∀ a b, Fv a b → (∃ f : Nat, f < FN ∧ a = -1 - (I f).toInt64 ∧ va b = 0) ∨ ∃ x : Nat, x < UN ∧ a = (I x).toInt64 ∧ va b = A w 54 x
set_option maxRecDepth 100000 in
theorem funC {h x b0 : Nat} {v3 : Int32} {kk : Int} (e : ERX Fv P PR T C ND CN p u fr ro rn rh cb pc ct q n ow kd (ro (fr - 1) + tH T q) (rn (fr - 1) + rh (fr - 1) + tM T q) bxM mu) (hp' : PGM Fv P PR T C pM pE ND CN PN SN UN FN u) (hm : m < ND) (hx : NX T q m (tH T q + 1) (tM T q)) (h98 : A u 98 (60 * p + (fr - 1)) = ((m : Nat) : Int)) (hN : 60000 ≤ N) (hkk : kk = 14 ∨ kk = 15) (hh : h ≤ 40) (hv : 0 < h → v3 = I x ∧ x < 1400 ∧ A u 55 x = ((b0 : Nat) : Int) ∧ b0 + h ≤ 24000) (hnc : ∀ j, j < h → NCO (A u 57 (b0 + j)) (tM T q) (tL T q)) (hF1 : kk = 15 → ∀ b, va b = h → Fv (-1 - (u.2.2.1 27 q).toInt64) b) (hF2 : kk ≠ 15 → ∀ b, va b = h → Fv v3.toInt64 b) : OK (fun v _ => RES Fv P PR T C ND CN p mu u v) ((gg_M_funRun N N).1 u (I q) (I kk) v3 (I h) (I ((2 + h : Nat) : Int)) (I ((0 : Nat) : Int))) := by
  have i := e.1
  have x4 := MEI_p i
  have nd := hp'.1.1.1
  have qn := e.2.2.1
  have hH := (hp'.1.2.2.1 q qn).1.1
  have hMM := (hp'.1.2.2.1 q qn).1.2.1
  have hBB := (hp'.1.2.2.1 q qn).1.2.2.2.1
  have hf := e.2.1.1
  have hro := (e.2.1.2.2.1 (fr - 1) (by omega)).2.2.2.2.1
  have hg := i.2.2.2.2.2.2.1
  have n500 : n ≤ 500 := i.2.2.2.2.2.2.2.1
  have x9 := i.2.2.2.2.2.2.2.2.2.2.2.2.2.1
  have nmb : ∀ j, j < h → nix (rn (fr - 1)) (rh (fr - 1)) (A u 57 (b0 + j)) < rn (fr - 1) + rh (fr - 1) + tM T q := fun j hj => (nameAt_x (N := N) e (FR.rf : FR [] [] [] [] u u) (by decide) (by decide) (by decide) (by decide) (hnc j hj)).2
  obtain ⟨f0, c, hc⟩ := SZ_all (h := hp u p) (n := n) (ow := ow) (kd := kd) (Fv := Fv) (P := P) (m := h) (q := fun j => u.2.2.2 93 (2500 * p + nix (rn (fr - 1)) (rh (fr - 1)) (A u 57 (b0 + j)))) (fun j hj => HP_sz hg (x9 _ (nmb j hj)))
  have L1 : ∀ k j w M, j + k = h → k + h + 3 ≤ M → FR [] [] [] [141] u w → OK (fun v _ => RES Fv P PR T C ND CN p mu u v) ((gg_M_funRun N M).1 w (I q) (I kk) v3 (I h) (I ((2 + h + smm (cap c) 0 j : Nat) : Int)) (I j)) := by
    intro k
    induction k with
    | zero =>
      intro j w M hj hM f1
      obtain rfl : j = h := by omega
      obtain ⟨M, rfl⟩ : ∃ M', M = M' + 1 := ⟨M - 1, by omega⟩
      have cl := cap_le (c := c) j
      show OK _ (fb_M_funRun_34 N (gg_M_funRun N M) w (I q) (I kk) v3 (I j) (I ((2 + j + smm (cap c) 0 j : Nat) : Int)) (I j))
      unfold fb_M_funRun_34
      have hpw : hp w p = hp u p := by unfold hp; rw [f1.2.2.2 88 (by decide)]
      have iw : MEI Fv P PR w p n ow kd (ro (fr - 1) + tH T q) (rn (fr - 1) + rh (fr - 1) + tM T q) bxM := MEI_fr i f1 (by decide) (by decide) (by decide) (by decide) (by decide) (by decide) (by decide) (by decide) (by decide) (by decide) (by decide) (by decide) (by decide) (by decide) (by decide) (by decide) (by decide) (by decide)
      have ew := ERX_fr e f1 (by decide) (by decide) (by decide) iw (by omega) (Nat.le_refl _)
      have o1 : OTF p u w := OTF_fr f1 (by decide)
      rw [decI (by omega) (by omega) (by omega) (by omega), decide_eq_true (by omega), br_tq, lit500, decI (by omega) (by omega) (by omega) (by omega)]
      refine ok_br.mpr ⟨fun z => ?_, fun _ => ok_bnd.mpr (ok_mono (err_ok (N := N) (a := 11) ew (PGM_fr hp' f1 (by decide) (by decide)) (by omega) hN) (fun y _ hy => ok_some.mpr (RES.pre f1 o1 (by decide) (by decide) (by decide) (by decide) hy)))⟩
      have z' : 2 + j + smm (cap c) 0 j ≤ 500 := by have := of_decide_eq_true z; omega
      rw [I_F' iw.2.2.1, show (2 : Int32) = I 2 from rfl, I_add, show (2 : Int) + (j : Int) = ((2 + j : Nat) : Int) from by omega]
      refine ok_bnd.mpr (ok_mono (wantsE (N := N) ew (k := 2 + j) (by omega) hN) (fun v r hv' => ?_))
      obtain ⟨n2, ow2, kd2, fd, v1, v2, v3', v4⟩ := hv'
      have fu : FR [136, 138] [139] [89, 90, 135] [88, 91, 93, 107, 134, 137, 141] u v := FR.tr (FR.mo f1 (by decide) (by decide) (by decide) (by decide)) (FR.mo v2 (by decide) (by decide) (by decide) (by decide))
      have ou : OTF p u v := OTF_fr fu (by decide)
      have pre : ∀ y, RES Fv P PR T C ND CN p mu v y → RES Fv P PR T C ND CN p mu u y := fun y hy => RES.pre fu ou (by decide) (by decide) (by decide) (by decide) hy
      refine ok_br.mpr ⟨fun _ => ok_bnd.mpr (ok_mono (noRoomR (N := N) v1 hp'.2.1) (fun y _ hy => ok_some.mpr (pre y hy))), fun zr => ?_⟩
      have h5 : n2 + (2 + j) ≤ 500 := by
        rcases v4 with ⟨-, y⟩ | y
        · exact y
        · exact absurd y (of_decide_eq_false zr)
      have v89 := v1.1.2.2.2.2.1
      have v133 := v1.1.2.2.1
      rw [I_F' v133]
      refine ok_ck.mpr ⟨inb_at (k := 89) (n := 25) rfl (by omega) (by omega) (by decide), ok_lt.mpr (ok_ck.mpr ⟨inb_at (k := 89) (n := 25) rfl (by omega) (by omega) (by decide), ok_ck.mpr ⟨inb_at (k := 89) (n := 25) rfl (by omega) (by omega) (by decide), ok_lt.mpr ?_⟩⟩)⟩
      rw [I_tn (x := (p : Int)) (by omega) (by omega), Int.toNat_natCast, I_A' v89, I_add, show (n2 : Int) + ((2 + j : Nat) : Int) = ((n2 + (2 + j) : Nat) : Int) from by omega, wa_e]
      have e57 : ∀ z, A v 57 z = A u 57 z := fun z => FR.A fu (by decide)
      have e27 : v.2.2.1 27 = u.2.2.1 27 := fu.2.2.1 27 (by decide)
      have last : ∀ a0 : Int64, (∀ b, va b = j → Fv a0 b) → OK (fun y _ => RES Fv P PR T C ND CN p mu u y) (fb_M_funRun_177 N (gg_M_funRun N M) (wa v 89 p ((n2 + (2 + j) : Nat) : Int)) v3 (I j) (I n2) 88 ((wa v 89 p ((n2 + (2 + j) : Nat) : Int)).1 133 * I 500 + I n2) a0) := fun a0 ha0 => by
        unfold fb_M_funRun_177
        rw [show isK 88 5 = true from by decide, ck_t, show (wa v 89 p ((n2 + (2 + j) : Nat) : Int)).1 133 = I p from I_F' v133, I_mul, I_add]
        refine ok_ck.mpr ⟨inb_at (k := 88) (n := 12500) rfl (by omega) (by omega) (by decide), ok_lt.mpr ?_⟩
        rw [I_tn (by omega) (by omega), show ((p : Int) * 500 + (n2 : Int)).toNat = 500 * p + n2 from by omega, wj_e, show (wj (wa v 89 p ((n2 + (2 + j) : Nat) : Int)) 88 (500 * p + n2) a0).1 133 = I p from I_F' v133, lit500, I_mul, I_add, lit1q, I_add]
        refine ok_ck.mpr ⟨inb_at (k := 88) (n := 12500) rfl (by omega) (by omega) (by decide), ok_lt.mpr ?_⟩
        rw [I_tn (by omega) (by omega), show ((p : Int) * 500 + (n2 : Int) + 1).toNat = 500 * p + (n2 + 1) from by omega, wj_e, show (0 : Int32) = I ((0 : Nat) : Int) from rfl]
        refine ok_mono (fun2 (N := N) (h := j) (x := x) (b0 := b0) (v3 := v3) (a0 := a0) (m := m) v1 hH hm hx (by rw [FR.A fu (by decide)]; exact h98) rfl rfl hh (fun z => by rw [FR.A fu (by decide)]; exact hv z) (fun i hi => by rw [e57]; exact hnc i hi) ha0 h5 (fun f2 d hd => ?_) j 0 _ M (by omega) (by omega) (FR.wj (FR.wj (FR.wa FR.rf (by decide)) (by decide)) (by decide)) (fun z => by rw [A_wj, A_wj, A_eq (by omega) (by omega)]) (by rw [hp_wj, if_neg (by omega), hp_wj, if_pos rfl]) (by rw [hp_wj, if_pos rfl]) (fun i hi => absurd hi (Nat.not_lt_zero i)) (fun i hi => by rw [J_wj, if_pos rfl, if_neg (by omega), J_wj, if_pos rfl, if_neg (by omega)]; rfl)) (fun y _ hy => pre y hy)
        have hd2 : ∀ i, i < j → d i = c i := fun i hi => by
          have h1 := hd i hi
          have h2 := hc i hi
          have h3 := v3'.2.2.2.1 (nix (rn (fr - 1)) (rh (fr - 1)) (A u 57 (b0 + i))) f0 (c i) (nmb i hi) (by rw [hpw, f1.2.2.2 93 (by decide)]; exact h2)
          rw [e57, v3'.2.1 _ (nmb i hi)] at h1
          exact SZ_fun h1 h3
        rw [smm_ext (c := d) (a := 0) (d := c) (b := 0) j (fun i hi => by rw [Nat.zero_add]; exact hd2 i hi), cap_eq j (by omega)]
        exact z'
      refine ok_br.mpr ⟨fun z15 => ok_ck.mpr ⟨inb_at (k := 27) (n := 16000) rfl (by omega) (by omega) (by decide), ?_⟩, fun z15 => ?_⟩
      · rw [show (15 : Int32) = I 15 from rfl, decE (by omega) (by omega) (by omega) (by omega)] at z15
        rw [I_tn (x := (q : Int)) (by omega) (by omega), Int.toNat_natCast]
        refine last _ ?_
        rw [show (wa v 89 p ((n2 + (2 + j) : Nat) : Int)).2.2.1 27 q = u.2.2.1 27 q from by rw [← e27]; rfl]
        exact hF1 (of_decide_eq_true z15)
      · rw [show (15 : Int32) = I 15 from rfl, decE (by omega) (by omega) (by omega) (by omega)] at z15
        exact last _ (hF2 (of_decide_eq_false z15))
    | succ k ih =>
      intro j w M hj hM f1
      obtain ⟨M, rfl⟩ : ∃ M', M = M' + 1 := ⟨M - 1, by omega⟩
      have cl := cap_le (c := c) j
      have cl2 := cap_le (c := c) (j + 1)
      obtain ⟨hv1, hv2, hv3, hv4⟩ := hv (by omega)
      have nm := (nameAt_x (N := N) e f1 (by decide) (by decide) (by decide) (by decide) (hnc j (by omega))).1
      show OK _ (fb_M_funRun_34 N (gg_M_funRun N M) w (I q) (I kk) v3 (I h) (I ((2 + h + smm (cap c) 0 j : Nat) : Int)) (I j))
      unfold fb_M_funRun_34
      have hpw : hp w p = hp u p := by unfold hp; rw [f1.2.2.2 88 (by decide)]
      have w133 : F w 133 = p := by rw [FR.F f1 (by decide)]; exact i.2.2.1
      have w55 : A w 55 x = ((b0 : Nat) : Int) := by rw [FR.A f1 (by decide)]; exact hv3
      rw [decI (by omega) (by omega) (by omega) (by omega), decide_eq_false (by omega), br_fq, hv1, inb_at (k := 55) (n := 1400) rfl (by omega) (by omega) (by decide), ck_t, I_tn (x := (x : Int)) (by omega) (by omega), Int.toNat_natCast, I_A' w55, I_add, inb_at (k := 57) (n := 24000) rfl (by omega) (by omega) (by decide), ck_t, I_tn (x := (b0 : Int) + (j : Int)) (by omega) (by omega), show ((b0 : Int) + (j : Int)).toNat = b0 + j from by omega, I_A' (show A w 57 (b0 + j) = A u 57 (b0 + j) from FR.A f1 (by decide)), nm, bnd_so, I_F' w133, f1.2.2.2 93 (by decide)]
      refine ok_bnd.mpr (ok_mono (copySize_ok (N := N) (Fv := Fv) (P := P) (n := n) (ow := ow) (kd := kd) (f := f0) (s := c j) (by rw [hpw]; exact hg) n500 (by omega) (by rw [hpw]; exact hc j (by omega)) (by omega)) (fun v r hv' => ?_))
      obtain ⟨v1, v2⟩ := hv'
      rw [v2, show ((if c j ≤ 500 then c j else 501 : Nat)) = cap c j from rfl, I_add, lit1q, I_add, show (j : Int) + 1 = ((j + 1 : Nat) : Int) from by omega, show ((2 + h + smm (cap c) 0 j : Nat) : Int) + ((cap c j : Nat) : Int) = ((2 + h + smm (cap c) 0 (j + 1) : Nat) : Int) from by
        show _ = ((2 + h + (smm (cap c) 0 j + cap c (0 + j)) : Nat) : Int)
        rw [Nat.zero_add]; omega]
      rw [← hv1]
      exact ih (j + 1) v M (by omega) (by omega) (FR.tr f1 v1)
  exact L1 h 0 u N (by omega) (by omega) FR.rf
theorem i15 (e : ERX Fv P PR T C ND CN p u fr ro rn rh cb pc ct q n ow kd (ro (fr - 1) + tH T q) (rn (fr - 1) + rh (fr - 1) + tM T q) bxM mu) (hp' : PGM Fv P PR T C pM pE ND CN PN SN UN FN u) (hfv : FVW Fv u UN FN) (hm : m < ND) (hx : NX T q m (tH T q + 1) (tM T q)) (h98 : A u 98 (60 * p + (fr - 1)) = ((m : Nat) : Int)) (h27 : 0 ≤ A u 27 q ∧ A u 27 q < FN) (hN : 60000 ≤ N) : OK (fun v _ => RES Fv P PR T C ND CN p mu u v) (fm_M_funRun N u (I q) (I 15)) := by
  have nd := hp'.1.1.1
  have qn := e.2.2.1
  unfold fm_M_funRun fb_M_funRun_0
  refine ok_ck.mpr ⟨inb_at (k := 25) (n := 16000) rfl (by omega) (by omega) (by decide), ?_⟩
  rw [show (15 : Int32) = I 15 from rfl, decE (by omega) (by omega) (by omega) (by omega), decide_eq_true rfl, br_tq]
  unfold fb_M_funRun_23
  rw [show (2 : Int32) + 0 = I ((2 + 0 : Nat) : Int) from rfl, show (0 : Int32) = I ((0 : Nat) : Int) from rfl]
  refine funC (N := N) (h := 0) (x := 0) (b0 := 0) (kk := 15) e hp' hm hx h98 hN (Or.inr rfl) (by omega) (fun z => by omega) (fun j hj => by omega) (fun _ b hb => ?_) (fun z => absurd rfl z)
  obtain ⟨g, hg⟩ : ∃ g : Nat, A u 27 q = g := ⟨(A u 27 q).toNat, by omega⟩
  rw [I_A' hg]
  exact hfv.1 g (by omega) b hb
theorem i14 {x h b0 : Nat} (e : ERX Fv P PR T C ND CN p u fr ro rn rh cb pc ct q n ow kd (ro (fr - 1) + tH T q) (rn (fr - 1) + rh (fr - 1) + tM T q) bxM mu) (hp' : PGM Fv P PR T C pM pE ND CN PN SN UN FN u) (hfv : FVW Fv u UN FN) (hm : m < ND) (hx : NX T q m (tH T q + 1) (tM T q)) (h98 : A u 98 (60 * p + (fr - 1)) = ((m : Nat) : Int)) (h25 : A u 25 q = x) (hxu : x < UN) (h54 : A u 54 x = h) (hh : h ≤ 40) (h55 : A u 55 x = b0) (hb0 : b0 + h ≤ 24000) (hnc : ∀ i : Nat, i < h → NCO (A u 57 (b0 + i)) (tM T q) (tL T q)) (hN : 60000 ≤ N) : OK (fun v _ => RES Fv P PR T C ND CN p mu u v) (fm_M_funRun N u (I q) (I 14)) := by
  have nd := hp'.1.1.1
  have un := hp'.1.1.2.2.2.1
  have qn := e.2.2.1
  unfold fm_M_funRun fb_M_funRun_0
  refine ok_ck.mpr ⟨inb_at (k := 25) (n := 16000) rfl (by omega) (by omega) (by decide), ?_⟩
  rw [show (15 : Int32) = I 15 from rfl, decE (by omega) (by omega) (by omega) (by omega), decide_eq_false (by omega), br_fq, I_tn (x := (q : Int)) (by omega) (by omega), Int.toNat_natCast, I_A' h25]
  refine ok_ck.mpr ⟨inb_at (k := 54) (n := 1400) rfl (by omega) (by omega) (by decide), ?_⟩
  unfold fb_M_funRun_23
  rw [I_tn (x := (x : Int)) (by omega) (by omega), Int.toNat_natCast, I_A' h54, show (2 : Int32) = I 2 from rfl, I_add, show (2 : Int) + (h : Int) = ((2 + h : Nat) : Int) from by omega, show (0 : Int32) = I ((0 : Nat) : Int) from rfl]
  exact funC (N := N) (h := h) (x := x) (b0 := b0) (kk := 14) e hp' hm hx h98 hN (Or.inl rfl) hh (fun _ => ⟨rfl, by omega, h55, hb0⟩) hnc (fun z => by omega) (fun _ b hb => hfv.2.1 x hxu b (by rw [h54]; exact hb))
end
end
section
section
variable {Fv : Int64 → Int64 → Prop} {P : Int64 → Prop} {u v w w2 : MS} {PR N p n n2 opM bnM bxM bx2 ND fr k tp mu CN PN SN UN FN rq q m h mm : Nat} {ow kd ow2 kd2 ro rn rh cb pc ct pM pE : Nat → Nat} {T : TY} {C : CY}
theorem lg_le {x y : Int64} (h : lg_cmp x y ≤ 0) : x.toInt ≤ y.toInt := by
  unfold lg_cmp at h
  by_cases e : x > y
  · rw [if_pos e] at h; exact absurd h (by decide)
  · have : ¬ y.toInt < x.toInt := fun z => e (Int64.lt_iff_toInt_lt.mpr z)
    omega
theorem npre_1 : ∀ k, k < 30 → 18 ≤ k → k ≠ 28 → npre k = 1 := by decide
set_option maxRecDepth 100000 in
theorem testR {k : Nat} (e : ERX Fv P PR T C ND CN p u fr ro rn rh cb pc ct q n ow kd (ro (fr - 1) + tH T q) (rn (fr - 1) + rh (fr - 1) + tM T q) bxM mu) (hp' : PGM Fv P PR T C pM pE ND CN PN SN UN FN u) (hk : 18 ≤ k ∧ k < 30) (hq : tB T q + npre k ≤ tH T q) (hm : m < ND) (hx : NX T q m (tH T q + 1 - npre k) (tM T q)) (h98 : A u 98 (60 * p + (fr - 1)) = ((m : Nat) : Int)) (hN : 60000 ≤ N) : OK (fun v _ => RES Fv P PR T C ND CN p mu u v) (fm_M_testRun N u (I k)) := by
  have i := e.1
  have x4 := MEI_p i
  have hH := (hp'.1.2.2.1 q e.2.2.1).1.1
  have hf := e.2.1.1
  have hro := (e.2.1.2.2.1 (fr - 1) (by omega)).2.2.2.2.1
  have hg := i.2.2.2.2.2.2.1
  have n500 : n ≤ 500 := i.2.2.2.2.2.2.2.1
  have n1 : k ≠ 28 → npre k = 1 := npre_1 k hk.2 hk.1
  have n2 : k = 28 → npre k = 2 := fun z => by rw [z]; rfl
  have e' := e
  rw [show ro (fr - 1) + tH T q = ro (fr - 1) + (tH T q - 1) + 1 from by omega] at e'
  unfold fm_M_testRun fb_M_testRun_0
  refine ok_bnd.mpr (ok_mono (takeE (N := N) e' (by omega)) (fun v t hv => ?_))
  obtain ⟨v1, v2, v3, v4⟩ := hv
  have pt : ∀ t, GT n ow kd P t → k ≠ 28 → OK (fun v _ => RES Fv P PR T C ND CN p mu u v) (fm_M_put N v t) := fun t gt h28 => by
    rw [n1 h28] at hx
    exact ok_mono (putR (N := N) v1 hm hx (by rw [FR.A v3 (by decide)]; exact h98) (by have := n1 h28; omega) rfl gt (by omega)) (fun y _ hy => RES.pre v3 v4 (by decide) (by decide) (by decide) (by decide) hy)
  have er : OK (fun v _ => RES Fv P PR T C ND CN p mu u v) (fr_M_error N v 11) :=
    ok_mono (err_ok (N := N) (a := 11) v1 (PGM_fr hp' v3 (by decide) (by decide)) (by omega) hN) (fun y _ hy => RES.pre v3 v4 (by decide) (by decide) (by decide) (by decide) hy)
  have p153 : k ≠ 28 → ∀ x : Int32, x = 0 ∨ x = 1 → OK (fun v _ => RES Fv P PR T C ND CN p mu u v) (fb_M_testRun_153 N () v x) := fun h28 x hx' => by
    unfold fb_M_testRun_153 fb_M_testRun_381
    rcases hx' with z | z
    · rw [z, truth0, bnd_so]; exact ok_bnd.mpr (ok_mono (pt _ (GT_atom hp'.2.1 (by omega)) h28) (fun y _ hy => ok_some.mpr hy))
    · rw [z, truth1, bnd_so]; exact ok_bnd.mpr (ok_mono (pt _ (GT_atom hp'.2.1 (by omega)) h28) (fun y _ hy => ok_some.mpr hy))
  have rt := so_r t
  have hn18 : ∀ x : Int, 0 ≤ x → x < 100 → decide (I (k : Int) - I 18 = I x) = decide ((k : Int) - 18 = x) := fun x h1 h2 => by rw [I_sub, decE (by omega) (by omega) (by omega) (by omega)]
  have hl18 : ∀ x : Int, 0 ≤ x → x < 100 → decide (I x ≤ I (k : Int) - I 18) = decide (x ≤ (k : Int) - 18) := fun x h1 h2 => by rw [I_sub, decI (by omega) (by omega) (by omega) (by omega)]
  rw [sortOf_e, bnd_so, show (18 : Int32) = I 18 from rfl, show (7 : Int32) = I 7 from rfl, show (9 : Int32) = I 9 from rfl, show (10 : Int32) = I 10 from rfl, hl18 7 (by omega) (by omega), hl18 9 (by omega) (by omega), hn18 9 (by omega) (by omega), hn18 10 (by omega) (by omega)]
  refine ok_br.mpr ⟨fun z7 => ok_br.mpr ⟨fun z9 => ok_br.mpr ⟨fun z => ?_, fun y9 => ok_br.mpr ⟨fun z => ?_, fun y10 => ?_⟩⟩, fun y9 => ?_⟩, fun z7 => ?_⟩
  · 
    have h28 : k ≠ 28 := by have := of_decide_eq_true z; omega
    refine ok_bnd.mpr (ok_mono (lengthOf_ok (N := N) v1.1 v2 (by omega)) (fun x r hx' => ?_))
    obtain ⟨x1, -⟩ := hx'
    subst x1
    refine ok_br.mpr ⟨fun _ => ?_, fun _ => ?_⟩
    · unfold fb_M_testRun_251 fb_M_testRun_381
      exact ok_bnd.mpr (ok_mono er (fun y _ hy => ok_some.mpr hy))
    · rw [term0_e, bnd_so]
      unfold fb_M_testRun_251 fb_M_testRun_381
      exact ok_bnd.mpr (ok_mono (pt _ (GT_int hp'.2.1) h28) (fun y _ hy => ok_some.mpr hy))
  · 
    have h28 : k = 28 := by have := of_decide_eq_true z; omega
    have hn2 := n2 h28
    rw [hn2] at hx hq
    have v1' := v1
    rw [show ro (fr - 1) + (tH T q - 1) = ro (fr - 1) + (tH T q - 2) + 1 from by omega] at v1'
    refine ok_bnd.mpr (ok_mono (takeE (N := N) v1' (by omega)) (fun w t2 hw => ?_))
    obtain ⟨w1, w2, w3, w4⟩ := hw
    have fw : FR [] [] [92] [] u w := FR.tr v3 w3
    have ow' : OTF p u w := OTF.tr v4 w4
    have er2 : OK (fun v _ => RES Fv P PR T C ND CN p mu u v) (fb_M_testRun_311 N () w) := by
      unfold fb_M_testRun_311 fb_M_testRun_342 fb_M_testRun_381
      exact ok_bnd.mpr (ok_mono (err_ok (N := N) (a := 11) w1 (PGM_fr hp' fw (by decide) (by decide)) (by omega) hN) (fun y _ hy => ok_some.mpr (RES.pre fw ow' (by decide) (by decide) (by decide) (by decide) hy)))
    have rt2 := va_r t2
    rw [sortOf_e, bnd_so, show (5 : Int32) = I 5 from rfl, decE (x := so t) rt.1 rt.2 (by omega) (by omega)]
    refine ok_br.mpr ⟨fun _ => ok_br.mpr ⟨fun z5 => ?_, fun _ => er2⟩, fun _ => er2⟩
    have e5 := of_decide_eq_true z5
    have ht : isH t := Or.inr (Or.inl e5)
    have hgw := w1.1.2.2.2.2.2.2.1
    obtain ⟨bk, parts⟩ := HP_bk hgw ht v2
    have bb : blk (hp w p) t = 1 + vn (hp w p (vn t)) := by unfold blk; rw [e5]; rfl
    have pp : prt t = 1 := by unfold prt; rw [e5]; rfl
    have hd := bk.2.1 e5
    have bn := bk.2.2.2.1
    have vt : va t = (vn t : Int) := by have := bk.1; unfold vn; omega
    have vh : va (hp w p (vn t)) = (vn (hp w p (vn t)) : Int) := by have := hd.1; unfold vn at *; omega
    rw [valueOf_e, bnd_so, lit1q, decL rt2.1 rt2.2 (by omega) (by omega)]
    refine ok_br.mpr ⟨fun _ => er2, fun y1 => ?_⟩
    have y1' := of_decide_eq_false y1
    rw [valueOf_e, bnd_so, valueOf_e, bnd_so, I_F' w1.1.2.2.1, vt, cell_e (by omega) (by omega), bnd_so]
    refine ok_br.mpr ⟨fun y2 => ?_, fun _ => er2⟩
    have y2' := lg_le (of_decide_eq_true y2)
    rw [Int32.toInt_toInt64, I_ti rt2.1 rt2.2, hd.2, vh] at y2'
    rw [valueOf_e, bnd_so, valueOf_e, bnd_so, I_F' w1.1.2.2.1, vt, I_add, show (vn t : Int) + va t2 = ((vn t + (va t2).toNat : Nat) : Int) from by omega, cell_e (by omega) (by omega), bnd_so]
    unfold fb_M_testRun_342 fb_M_testRun_381
    exact ok_bnd.mpr (ok_mono (putR (N := N) w1 hm hx (by rw [FR.A fw (by decide)]; exact h98) (by omega) rfl (parts _ (by omega) (by omega)) (by omega)) (fun y _ hy => ok_some.mpr (RES.pre fw ow' (by decide) (by decide) (by decide) (by decide) hy)))
  · 
    have h28 : k ≠ 28 := by have := of_decide_eq_false y10; omega
    rw [show (5 : Int32) = I 5 from rfl, decE (x := so t) rt.1 rt.2 (by omega) (by omega)]
    unfold fb_M_testRun_381
    refine ok_br.mpr ⟨fun z5 => ?_, fun _ => ok_bnd.mpr (ok_mono er (fun y _ hy => ok_some.mpr hy))⟩
    have e5 := of_decide_eq_true z5
    have ht : isH t := Or.inr (Or.inl e5)
    have hgv := v1.1.2.2.2.2.2.2.1
    obtain ⟨bk, parts⟩ := HP_bk hgv ht v2
    have bb : blk (hp v p) t = 1 + vn (hp v p (vn t)) := by unfold blk; rw [e5]; rfl
    have bn := bk.2.2.2.1
    have vt : va t = (vn t : Int) := by have := bk.1; unfold vn; omega
    rw [valueOf_e, bnd_so, I_F' v1.1.2.2.1, vt, cell_e (by omega) (by omega), bnd_so, term0_e, bnd_so]
    exact ok_bnd.mpr (ok_mono (pt _ (GT_int hp'.2.1) h28) (fun y _ hy => ok_some.mpr hy))
  · 
    have h28 : k ≠ 28 := by have := of_decide_eq_false y9; omega
    have h9 := of_decide_eq_false y9
    have h7 := of_decide_eq_true z7
    rw [decE (x := so t) rt.1 rt.2 (by omega) (by omega)]
    unfold fb_M_testRun_381
    refine ok_br.mpr ⟨fun z5 => ?_, fun _ => ok_bnd.mpr (ok_mono er (fun y _ hy => ok_some.mpr hy))⟩
    have e7 := of_decide_eq_true z5
    have ht : isH t := Or.inr (Or.inr e7)
    have hgv := v1.1.2.2.2.2.2.2.1
    obtain ⟨bk, parts⟩ := HP_bk hgv ht v2
    have bb : blk (hp v p) t = 2 := by unfold blk; rw [e7]; rfl
    have pp : prt t = 0 := by unfold prt; rw [e7]; rfl
    have bn := bk.2.2.2.1
    have vt : va t = (vn t : Int) := by have := bk.1; unfold vn; omega
    rw [valueOf_e, bnd_so, I_F' v1.1.2.2.1, vt, I_sub, I_add, I_sub, show (vn t : Int) + ((k : Int) - 18) - 7 = ((vn t + (k - 25) : Nat) : Int) from by omega, cell_e (by omega) (by omega), bnd_so]
    exact ok_bnd.mpr (ok_mono (pt _ (parts _ (by omega) (by omega)) h28) (fun y _ hy => ok_some.mpr hy))
  · have h28 : k ≠ 28 := by have := of_decide_eq_false z7; omega
    have y1 := p153 h28 1 (Or.inr rfl)
    have y0 := p153 h28 0 (Or.inl rfl)
    unfold fb_M_testRun_77
    exact ok_br.mpr ⟨fun _ => ok_br.mpr ⟨fun _ => y1, fun _ => y0⟩, fun _ => ok_br.mpr ⟨fun _ => ok_br.mpr ⟨fun _ => y1, fun _ => y0⟩, fun _ => ok_br.mpr ⟨fun _ => ok_br.mpr ⟨fun _ => y1, fun _ => ok_br.mpr ⟨fun _ => y1, fun _ => y0⟩⟩, fun _ => ok_br.mpr ⟨fun _ => ok_br.mpr ⟨fun _ => y1, fun _ => y0⟩, fun _ => ok_br.mpr ⟨fun _ => ok_br.mpr ⟨fun _ => y1, fun _ => y0⟩, fun _ => ok_br.mpr ⟨fun _ => ok_br.mpr ⟨fun _ => y1, fun _ => y0⟩, fun _ => ok_br.mpr ⟨fun _ => y1, fun _ => y0⟩⟩⟩⟩⟩⟩⟩
end
end
section
def PQ (AN PR : Nat) (t : Int64) : Prop := so t = 0 ∨ so t = 2 ∨ so t = 6 ∨ (so t = 1 ∧ 0 ≤ va t ∧ va t < AN) ∨ (so t = 4 ∧ 0 ≤ va t ∧ va t < PR)
theorem PQ_b {AN PR : Nat} (h : 22 ≤ AN) (h2 : PR ≤ 24) : PB (PQ AN PR) PR := by
  refine ⟨fun a h1 h2 => ?_, fun p hp => ?_, fun r h1 h2 => ?_, fun r h1 h2 => ?_, ?_⟩
  · exact Or.inr (Or.inr (Or.inr (Or.inl ⟨so_mk (by omega) (by omega), by rw [va_mk (by omega) (by omega)]; omega, by rw [va_mk (by omega) (by omega)]; omega⟩)))
  · exact Or.inr (Or.inr (Or.inr (Or.inr ⟨so_mk (by omega) (by omega), by rw [va_mk (by omega) (by omega)]; omega, by rw [va_mk (by omega) (by omega)]; omega⟩)))
  · exact Or.inr (Or.inl (so_mk (by omega) (by omega)))
  · exact Or.inl (so_mk (by omega) (by omega))
  · exact Or.inr (Or.inr (Or.inl (so_mk (by omega) (by omega))))
theorem PQ_s {AN PR : Nat} : PS (PQ AN PR) := fun t h => by
  rcases h with h | h | h | h | h <;> omega
theorem PQ_atom {AN PR : Nat} {a : Int} (h : 0 ≤ a) (h1 : a < AN) (h2 : AN ≤ 3000) : PQ AN PR (mk 1 a) := Or.inr (Or.inr (Or.inr (Or.inl ⟨so_mk (by omega) (by omega), by rw [va_mk (by omega) (by omega)]; omega, by rw [va_mk (by omega) (by omega)]; omega⟩)))
theorem PQ_mo {AN PR PR2 : Nat} (h : PR ≤ PR2) (t : Int64) (g : PQ AN PR t) : PQ AN PR2 t := by
  rcases g with g | g | g | g | ⟨g1, g2, g3⟩
  · exact Or.inl g
  · exact Or.inr (Or.inl g)
  · exact Or.inr (Or.inr (Or.inl g))
  · exact Or.inr (Or.inr (Or.inr (Or.inl g)))
  · exact Or.inr (Or.inr (Or.inr (Or.inr ⟨g1, g2, by omega⟩)))
def FRZ (w : MS) (T : TY) (ND z : Nat) : Prop := ∃ fr ro rn rh cb pc ct q, FRS w T ND z fr ro rn rh cb pc ct (tK T q) (tC T q) ∧ A w 98 (60 * z + (fr - 1)) = ((q : Nat) : Int) ∧ q < ND ∧ rh (fr - 1) = tL T q ∧ A w 106 z = ((cb (fr - 1) + tK T q : Nat) : Int) ∧ A w 92 z = ((ro (fr - 1) + tH T q : Nat) : Int) ∧ A w 94 z = ((rn (fr - 1) + rh (fr - 1) + tM T q : Nat) : Int) ∧ tG T q = 0 ∧ (A w 109 z = 0 ∨ (A w 109 z = 1 ∧ A w 23 q = 27 ∧ (A w 31 q = -1 → w.2.2.2 111 z = -1) ∧ 0 ≤ A w 110 z))
def FRH (w : MS) (UN FN z : Nat) : Prop := A w 109 z = 5 ∧ A w 95 z = 1 ∧ A w 92 z = 0 ∧ A w 106 z = 0 ∧ A w 99 (60 * z) = 0 ∧ A w 100 (60 * z) = 0 ∧ ∃ h : Nat, h ≤ 40 ∧ A w 94 z = h ∧ A w 101 (60 * z) = h ∧ ((A w 96 (60 * z) = -1 ∧ ∃ x : Nat, x < UN ∧ A w 170 z = x ∧ A w 54 x = h ∧ ∃ c : Nat, A w 53 x = c ∧ A w 41 c = 0) ∨ (h = 0 ∧ ∃ f : Nat, f < FN ∧ A w 96 (60 * z) = f ∧ A w 48 f = 0))
def PSX (w : MS) (T : TY) (ND UN FN z : Nat) : Prop := A w 109 z = 3 ∨ FRZ w T ND z ∨ FRH w UN FN z
def WLD (w : MS) (T : TY) (ND UN FN PR p : Nat) : Prop := LK w PR ∧ WTQ w PR ∧ (0 ≤ F w 128 ∧ F w 128 ≤ 200) ∧ (∀ i, 0 ≤ A w 127 i ∧ A w 127 i ≤ 100) ∧ (∀ i, -1 ≤ A w 97 i ∧ A w 97 i < 1400) ∧ (∀ i, 0 ≤ A w 132 i ∧ A w 132 i ≤ 100) ∧ ∀ z, z < PR → z ≠ p → PSX w T ND UN FN z
def PAU (Fv : Int64 → Int64 → Prop) (P : Int64 → Prop) (PR : Nat) (T : TY) (ND p : Nat) (w : MS) : Prop := ∃ fr ro rn rh cb pc ct q n ow kd bxM, ATQ Fv P PR T ND p w fr ro rn rh cb pc ct q n ow kd bxM ∧ A w 109 p = 0 ∧ tG T q = 0 ∧ F w 151 = 1
def GFR (u w : MS) : Prop := FR [118, 119, 121, 125, 128, 136, 138, 140, 144, 150, 151, 152, 153, 154, 155, 156, 157, 158, 159, 165, 166, 169] [139] [89, 90, 92, 94, 95, 96, 97, 98, 99, 100, 101, 102, 103, 104, 105, 106, 108, 109, 110, 112, 113, 114, 115, 116, 117, 122, 123, 124, 126, 127, 132, 135, 142, 143, 145, 146, 147, 160, 162, 168, 170] [88, 91, 93, 107, 111, 134, 137, 141, 148, 161, 163, 167] u w
def RSW (Fv : Int64 → Int64 → Prop) (AN : Nat) (T : TY) (C : CY) (ND CN UN FN p mu : Nat) (u w : MS) : Prop := ∃ PR, p < PR ∧ (ENDD Fv (PQ AN PR) PR p w ∨ WAI Fv (PQ AN PR) PR T ND p w ∨ PAU Fv (PQ AN PR) PR T ND p w ∨ ∃ m, m < mu ∧ STE Fv (PQ AN PR) PR T C ND CN p m w) ∧ WLD w T ND UN FN PR p ∧ GFR u w
section
variable {Fv : Int64 → Int64 → Prop} {P : Int64 → Prop} {u v w w2 : MS} {PR N p n n2 opM bnM bxM bx2 ND fr k tp mu CN PN SN UN FN rq q m h mm AN : Nat} {ow kd ow2 kd2 ro rn rh cb pc ct pM pE : Nat → Nat} {T : TY} {C : CY}
theorem FRS_otf {z : Nat} (h : FRS u T ND z fr ro rn rh cb pc ct k tp) (hz : z ≠ p) (hk : k ≤ 26) (o : OTF p u w) (h23 : ∀ i, A w 23 i = A u 23 i) : FRS w T ND z fr ro rn rh cb pc ct k tp := by
  obtain ⟨⟨h1, h2, h3⟩, h4, h5, h6, h7⟩ := h
  have row : ∀ i, i < 60 → A w 98 (60 * z + i) = A u 98 (60 * z + i) ∧ A w 99 (60 * z + i) = A u 99 (60 * z + i) ∧ A w 100 (60 * z + i) = A u 100 (60 * z + i) ∧ A w 101 (60 * z + i) = A u 101 (60 * z + i) := fun i hi => o.2.1 _ (by omega)
  have cts : ∀ i c0 kk tt a b c, c0 + kk ≤ 1600 → CTI u T ND z ct i c0 kk tt a b c → CTI w T ND z ct i c0 kk tt a b c := fun i c0 kk tt a b c hc hh j hj => by
    obtain ⟨q1, q2, q3, q4⟩ := o.2.2.1 (1600 * z + (c0 + j)) (by omega)
    rw [q1, q2, q3, q4, h23]; exact hh j hj
  have cb26 : ∀ i, i < fr → cb i ≤ 26 * i := fun i hi => (h5 i hi).2.2.2.2.2.2
  refine ⟨⟨h1, h2, by rw [(o.1 z hz).2.2.1]; exact h3⟩, h4, fun i hi => ?_, fun i hi => ?_, cts _ _ _ _ _ _ _ (by have := cb26 (fr - 1) (by omega); omega) h7⟩
  · obtain ⟨q1, q2, q3, q4⟩ := row i (by omega)
    rw [q2, q3, q4]; exact h5 i hi
  · obtain ⟨r1, r2, r3, r4, r6, r7, r8, r9, r10⟩ := h6 i hi
    exact ⟨by rw [(row i (by omega)).1]; exact r1, r2, r3, r4, r6, r7, r8, r9, cts _ _ _ _ _ _ _ (by have := cb26 (i + 1) hi; omega) r10⟩
theorem PSX_otf {z : Nat} (h : PSX u T ND UN FN z) (hz : z ≠ p) (hT : ∀ q, q < ND → tK T q ≤ 26) (o : OTF p u w) (hk : ∀ k, k ∈ KP → ∀ i, A w k i = A u k i) (h109 : A w 109 z = A u 109 z ∨ A w 109 z = 3) : PSX w T ND UN FN z := by
  rcases h109 with h109 | h109
  · rcases h with h | ⟨fr, ro, rn, rh, cb, pc, ct, q, h1, h2, h3, h4, h5, h6, h7, h8, h9⟩ | ⟨h1, h2, h3, h4, h5, h6, x, h7, h8, h9, h10⟩
    · exact Or.inl (by rw [h109]; exact h)
    · have hf := h1.1
      obtain ⟨o1, o2, o3, o4⟩ := o.1 z hz
      refine Or.inr (Or.inl ⟨fr, ro, rn, rh, cb, pc, ct, q, FRS_otf h1 hz (hT q h3) o (hk 23 (by decide)), by rw [(o.2.1 (60 * z + (fr - 1)) (by omega)).1]; exact h2, h3, h4, by rw [o4]; exact h5, by rw [o1]; exact h6, by rw [o2]; exact h7, h8, ?_⟩)
      rw [h109, hk 23 (by decide), hk 31 (by decide), (o.2.2.2.2.2 z hz).2.1, (o.2.2.2.2.2 z hz).2.2]
      exact h9
    · obtain ⟨o1, o2, o3, o4⟩ := o.1 z hz
      obtain ⟨q1, q2, q3, q4⟩ := o.2.1 (60 * z) (by omega)
      have q5 := o.2.2.2.2.1 (60 * z) (by omega)
      refine Or.inr (Or.inr ⟨by rw [h109]; exact h1, by rw [o3]; exact h2, by rw [o1]; exact h3, by rw [o4]; exact h4, by rw [q2]; exact h5, by rw [q3]; exact h6, x, h7, by rw [o2]; exact h8, by rw [q4]; exact h9, ?_⟩)
      rw [q5, (o.2.2.2.2.2 z hz).1]
      rcases h10 with ⟨y1, y, y2, y3, y4, c, y5, y6⟩ | ⟨y1, y, y2, y3, y4⟩
      · exact Or.inl ⟨y1, y, y2, y3, by rw [hk 54 (by decide)]; exact y4, c, by rw [hk 53 (by decide)]; exact y5, by rw [hk 41 (by decide)]; exact y6⟩
      · exact Or.inr ⟨y1, y, y2, y3, by rw [hk 48 (by decide)]; exact y4⟩
  · exact Or.inl h109
theorem PRG_26 (hg : PRG w T C pM pE ND CN PN SN UN FN) : ∀ q, q < ND → tK T q ≤ 26 := fun q hq => (hg.2.2.1 q hq).1.2.2.1
theorem WLD_otf (h : WLD u T ND UN FN PR p) (hT : ∀ q, q < ND → tK T q ≤ 26) (o : OTF p u w) (hk : ∀ k, k ∈ KP → ∀ i, A w k i = A u k i) (h109 : ∀ z, z ≠ p → A w 109 z = A u 109 z ∨ A w 109 z = 3) (lk : LK w PR) (wt : WTQ w PR) (h128 : 0 ≤ F w 128 ∧ F w 128 ≤ 200) (h127 : ∀ i, 0 ≤ A w 127 i ∧ A w 127 i ≤ 100) (h132 : ∀ i, 0 ≤ A w 132 i ∧ A w 132 i ≤ 100) : WLD w T ND UN FN PR p := by
  obtain ⟨h1, h2, h3, h4, h5, h6, h7⟩ := h
  refine ⟨lk, wt, h128, h127, fun i => ?_, h132, fun z hz hzp => PSX_otf (h7 z hz hzp) hzp hT o hk (h109 z hzp)⟩
  rcases o.2.2.2.1 i with e | e
  · rw [e]; exact h5 i
  · exact e
theorem WLD_fr {is ls as js : List Nat} (h : WLD u T ND UN FN PR p) (hT : ∀ q, q < ND → tK T q ≤ 26) (o : OTF p u w) (f : FR is ls as js u w) (hi : ∀ k, k ∈ [125, 128] → k ∉ is) (ha : ∀ k, k ∈ 116 :: 117 :: 123 :: 124 :: 127 :: 132 :: KP → k ∉ as) (h109 : ∀ z, z ≠ p → A w 109 z = A u 109 z ∨ A w 109 z = 3) : WLD w T ND UN FN PR p :=
  WLD_otf h hT o (fun k hk i => FR.A f (ha k (List.mem_cons_of_mem _ (List.mem_cons_of_mem _ (List.mem_cons_of_mem _ (List.mem_cons_of_mem _ (List.mem_cons_of_mem _ (List.mem_cons_of_mem _ hk)))))))) h109 (LK_fr h.1 f (ha _ (by decide)) (ha _ (by decide))) (WT_fr h.2.1 f (hi _ (by decide)) (ha _ (by decide)) (ha _ (by decide))) (by rw [FR.F f (hi _ (by decide))]; exact h.2.2.1) (fun i => by rw [FR.A f (ha _ (by decide))]; exact h.2.2.2.1 i) (fun i => by rw [FR.A f (ha _ (by decide))]; exact h.2.2.2.2.2.1 i)
theorem RES_rsw (r : RES Fv (PQ AN PR) PR T C ND CN p mu u w) (hw : WLD u T ND UN FN PR p) (hT : ∀ q, q < ND → tK T q ≤ 26) (hp : p < PR) : RSW Fv AN T C ND CN UN FN p mu u w := by
  obtain ⟨r1, r2, r3, r4⟩ := r
  refine ⟨PR, hp, ?_, WLD_fr hw hT r3 r2.st (by decide) (by decide) (fun z hz => Or.inl (r4 z hz)), FR.mo r2.st (by decide) (by decide) (by decide) (by decide)⟩
  rcases r1 with r1 | r1 | ⟨m, r1, r5⟩
  · exact Or.inl r1
  · exact Or.inr (Or.inl r1)
  · exact Or.inr (Or.inr (Or.inr ⟨m, r1, r5⟩))
theorem RSW.pre (a : GFR u v) (r : RSW Fv AN T C ND CN UN FN p mu v w) : RSW Fv AN T C ND CN UN FN p mu u w := by
  obtain ⟨PR, h1, h2, h3, h4⟩ := r
  exact ⟨PR, h1, h2, h3, FR.tr a h4⟩
end
end
section
def MEX (Fv : Int64 → Int64 → Prop) (P : Int64 → Prop) (PR : Nat) (w : MS) (p n : Nat) (ow kd : Nat → Nat) (opM bnM bxM : Nat) : Prop :=
  DW Fv P PR w ∧ p < PR ∧ F w 133 = p ∧ A w 89 p = ((n : Nat) : Int) ∧ CX w p (hp w p) n ow kd Fv P opM bnM bxM
section
variable {Fv : Int64 → Int64 → Prop} {P P2 : Int64 → Prop} {u v w w2 : MS} {PR PR2 N p n n2 opM bnM bxM bx2 ND fr k tp mu CN PN SN UN FN rq q m h mm AN : Nat} {ow kd ow2 kd2 ro rn rh cb pc ct pM pE : Nat → Nat} {T : TY} {C : CY}
theorem MEI_x (i : MEI Fv P PR w p n ow kd opM bnM bxM) : MEX Fv P PR w p n ow kd opM bnM bxM := ⟨i.1, i.2.1, i.2.2.1, i.2.2.2.2.1, i.2.2.2.2.2⟩
theorem MEX_i (i : MEX Fv P PR w p n ow kd opM bnM bxM) (h : A w 109 p ≠ 3) : MEI Fv P PR w p n ow kd opM bnM bxM := ⟨i.1, i.2.1, i.2.2.1, h, i.2.2.2.1, i.2.2.2.2⟩
theorem MEX_p (i : MEX Fv P PR w p n ow kd opM bnM bxM) : p < 24 := i.2.2.2.2.2.2.2.1
theorem MEX_of (d : DW Fv P PR w) (hp : p < PR) (h1 : F w 133 = p) (h2 : A w 92 p = ((opM : Nat) : Int)) (h3 : A w 94 p = ((bnM : Nat) : Int)) : ∃ n ow kd bx, MEX Fv P PR w p n ow kd opM bnM bx := by
  obtain ⟨n, ow, kd, o2, b2, bx, a, x1, x2, x3, x4, x5, x6, x7, x8, x9, x10, x11⟩ := d.2.1 p hp
  obtain rfl : o2 = opM := by omega
  obtain rfl : b2 = bnM := by omega
  exact ⟨n, ow, kd, bx, d, hp, h1, a, x1, x2, x3, x4, x5, x6, x7, x8, x9, x10, x11⟩
theorem DW_op (d : DW Fv P PR w) (f : FR [] [] [92] [91] w w2) (h92 : ∀ z, z ≠ p → A w2 92 z = A w 92 z) (h91 : ∀ i, ¬ (46000 * p ≤ i ∧ i < 46000 * p + 46000) → w2.2.2.2 91 i = w.2.2.2 91 i) (nq : PRC Fv P w2 p) : DW Fv P PR w2 := by
  obtain ⟨⟨d1, d1'⟩, d2, ⟨n4, ow4, kd4, d3a, d3b, d3c⟩, d4, ⟨eF, eM, e1, e2, e3, e4, e5⟩, d6⟩ := d
  have h88 : ∀ o, hp w2 o = hp w o := fun o => by unfold hp; rw [f.2.2.2 88 (by decide)]
  refine ⟨⟨by rw [FR.F f (by decide)]; exact d1, d1'⟩, fun z hz => ?_, ⟨n4, ow4, kd4, by rw [FR.A f (by decide)]; exact d3a, d3b, by rw [h88]; exact d3c⟩, by rw [FR.F f (by decide)]; exact d4, ⟨eF, eM, by rw [FR.F f (by decide)]; exact e1, by rw [FR.F f (by decide)]; exact e2, e3, by rw [cE_eq PR (fun p _ => FR.A f (by decide))]; exact e4, fun i h1 h2 => ?_⟩, fun z hz => by rw [FR.A f (by decide)]; exact d6 z hz⟩
  · by_cases e : z = p
    · rw [e]; exact nq
    · exact PRC_same (d2 z hz) (FR.A f (by decide)) (h88 z) (h92 z e) (FR.A f (by decide)) (FR.A f (by decide)) (fun i hi => h91 _ (by omega)) (fun i _ => by rw [f.2.2.2 93 (by decide)]) (fun i _ => by rw [f.2.2.2 107 (by decide)]) (by rw [FR.F f (by decide), d4]; omega)
  · obtain ⟨q1, q2, q3, q4⟩ := e5 i h1 h2
    rw [FR.A f (by decide), FR.A f (by decide), FR.A f (by decide), f.2.2.2 148 (by decide)]
    refine ⟨q1, q2, q3, ?_⟩
    rcases q4 with q4 | ⟨q4, q5, q6⟩
    · exact Or.inl q4
    · refine Or.inr ⟨q4, ?_, GTP_same q6 (FR.A f (by decide)) (h88 _)⟩
      rw [FR.A f (by decide)]; exact q5
theorem put_x {t : Int64} (m : MEX Fv P PR w p n ow kd opM bnM bxM) (g : GT n ow kd P t) (ho : opM < 46000) : OK (fun w2 _ => FR [] [] [92] [91] w w2 ∧ OTF p w w2 ∧ MEX Fv P PR w2 p n ow kd (opM + 1) bnM bxM) (fm_M_put N w t) := by
  obtain ⟨m1, m2, m3, m5, ⟨x1, x2, x3, x4, x5, x6, x7, x8, x9, x10, x11⟩⟩ := m
  have f140 := m1.2.2.2.1
  unfold fm_M_put fb_M_put_0
  rw [I_F' m3, inb_at (k := 92) (n := 24) rfl (by omega) (by omega) (by decide), ck_t, I_tn (x := (p : Int)) (by omega) (by omega), Int.toNat_natCast, I_A' x5.1, show (46000 : Int32) = I 46000 from rfl, I_mul, I_add, inb_at (k := 91) (n := 1104000) rfl (by omega) (by omega) (by decide), ck_t, lt_e, I_tn (by omega) (by omega), show ((p : Int) * 46000 + (opM : Int)).toNat = 46000 * p + opM from by omega, wj_e]
  rw [show (wj w 91 (46000 * p + opM) t).1 133 = I p from I_F' m3, inb_at (k := 92) (n := 24) rfl (by omega) (by omega) (by decide), ck_t, ck_t, lt_e, I_tn (by omega) (by omega), Int.toNat_natCast, show (wj w 91 (46000 * p + opM) t).2.2.1 92 p = I opM from I_A' x5.1, lit1q, I_add, wa_e]
  generalize hz : wa (wj w 91 (46000 * p + opM) t) 92 p ((opM : Int) + 1) = z
  have fz : FR [] [] [92] [91] w z := by rw [← hz]; exact FR.wa (FR.wj FR.rf (by decide)) (by decide)
  have a92 : ∀ i, A z 92 i = if i = p then (opM : Int) + 1 else A w 92 i := fun i => by rw [← hz, A_eq (by omega) (by omega)]; rfl
  have j91 : ∀ i, z.2.2.2 91 i = if i = 46000 * p + opM then t else w.2.2.2 91 i := fun i => by rw [← hz, J_wa, J_wj, if_pos rfl]
  have hpz : hp z p = hp w p := by unfold hp; rw [fz.2.2.2 88 (by decide)]
  have z140 : F z 140 = -1 := by rw [FR.F fz (by decide)]; exact f140
  have cx : CX z p (hp z p) n ow kd Fv P (opM + 1) bnM bxM := ⟨rfl, by rw [hpz]; exact x2, x3, x4, ⟨by rw [a92, if_pos rfl]; omega, by omega⟩, by rw [FR.A fz (by decide)]; exact x6, by rw [FR.A fz (by decide)]; exact x7, fun i hi => by
    rw [j91]
    by_cases e : i = opM
    · subst e; rw [if_pos rfl]; exact g
    · rw [if_neg (by omega)]; exact x8 i (by omega), fun i hi => by rw [fz.2.2.2 93 (by decide)]; exact x9 i hi, fun i hi => by rw [fz.2.2.2 107 (by decide)]; exact x10 i hi, fun e => by omega⟩
  have m5' : A z 89 p = ((n : Nat) : Int) := by rw [FR.A fz (by decide)]; exact m5
  exact ok_some.mpr ⟨fz, OTF_at (k0 := 92) fz (i0 := p) (fun j hj => by rw [a92, if_neg hj]) (Or.inl ⟨by decide, rfl⟩), DW_op m1 fz (fun q hq => by rw [a92, if_neg hq]) (fun i hi => by rw [j91, if_neg (by omega)]) ⟨n, ow, kd, _, _, _, m5', cx⟩, m2, by rw [FR.F fz (by decide)]; exact m3, m5', cx⟩
theorem take_x (m : MEX Fv P PR w p n ow kd (opM + 1) bnM bxM) : OK (fun w2 r => FR [] [] [92] [91] w w2 ∧ OTF p w w2 ∧ GT n ow kd P r ∧ MEX Fv P PR w2 p n ow kd opM bnM bxM) (fm_M_take N w) := by
  obtain ⟨m1, m2, m3, m5, ⟨x1, x2, x3, x4, x5, x6, x7, x8, x9, x10, x11⟩⟩ := m
  have f140 := m1.2.2.2.1
  unfold fm_M_take fb_M_take_0
  rw [I_F' m3, inb_at (k := 92) (n := 24) rfl (by omega) (by omega) (by decide), ck_t, ck_t, lt_e, I_tn (x := (p : Int)) (by omega) (by omega), Int.toNat_natCast, I_A' x5.1, lit1q, I_sub, show ((opM + 1 : Nat) : Int) - 1 = (opM : Int) from by omega, wa_e]
  rw [show (wa w 92 p opM).1 133 = I p from I_F' m3, inb_at (k := 92) (n := 24) rfl (by omega) (by omega) (by decide), ck_t, I_tn (x := (p : Int)) (by omega) (by omega), Int.toNat_natCast, I_A' (show A (wa w 92 p opM) 92 p = opM by rw [A_eq (by omega) (by omega), if_pos rfl]), show (46000 : Int32) = I 46000 from rfl, I_mul, I_add, inb_at (k := 91) (n := 1104000) rfl (by omega) (by omega) (by decide), ck_t, I_tn (by omega) (by omega), show ((p : Int) * 46000 + (opM : Int)).toNat = 46000 * p + opM from by omega]
  have a92 : ∀ i, A (wa w 92 p opM) 92 i = if i = p then (opM : Int) else A w 92 i := fun i => A_eq (by omega) (by omega)
  have fz : FR [] [] [92] [91] w (wa w 92 p opM) := FR.wa FR.rf (by decide)
  have j91 : (wa w 92 p opM).2.2.2 91 = w.2.2.2 91 := rfl
  have hpz : hp (wa w 92 p opM) p = hp w p := rfl
  generalize wa w 92 p opM = z at *
  have cx : CX z p (hp z p) n ow kd Fv P opM bnM bxM := ⟨rfl, by rw [hpz]; exact x2, x3, x4, ⟨by rw [a92, if_pos rfl], by omega⟩, by rw [FR.A fz (by decide)]; exact x6, by rw [FR.A fz (by decide)]; exact x7, fun i hi => by rw [j91]; exact x8 i (by omega), fun i hi => by rw [fz.2.2.2 93 (by decide)]; exact x9 i hi, fun i hi => by rw [fz.2.2.2 107 (by decide)]; exact x10 i hi, fun e => by have := FR.F fz (k := 140) (by decide); omega⟩
  have m5' : A z 89 p = ((n : Nat) : Int) := by rw [FR.A fz (by decide)]; exact m5
  refine ok_some.mpr ⟨fz, OTF_at (k0 := 92) fz (i0 := p) (fun j hj => by rw [a92, if_neg hj]) (Or.inl ⟨by decide, rfl⟩), ?_, DW_op m1 fz (fun q hq => by rw [a92, if_neg hq]) (fun i hi => by rw [j91]) ⟨n, ow, kd, _, _, _, m5', cx⟩, m2, by rw [FR.F fz (by decide)]; exact m3, m5', cx⟩
  rw [j91]; exact x8 opM (by omega)
theorem nxtP {is ls as js : List Nat} (e : ERX Fv P PR T C ND CN p u fr ro rn rh cb pc ct q n ow kd opM bnM bxM mu) (hm : m < ND) (hx : NX T q m h mm) (f : FR is ls as js u v) (hi : ∀ k, k ∈ [149, 150, 151, 152, 153, 154, 155, 156, 157, 158, 159, 164, 165] → k ∉ is ∨ (tG T q = 0 ∧ (k = 150 ∨ k = 151))) (ha : ∀ k, k ∈ [23, 25, 31, 41, 95, 99, 100, 101, 102, 103, 104, 105, 106] → k ∉ as) (hj : 111 ∉ js) (h98 : A v 98 (60 * p + (fr - 1)) = ((m : Nat) : Int)) (h98' : ∀ j, j ≠ 60 * p + (fr - 1) → A v 98 j = A u 98 j) (h109 : A v 109 p = 0) (i : MEI Fv P2 PR2 v p n2 ow2 kd2 (ro (fr - 1) + h) (rn (fr - 1) + rh (fr - 1) + mm) bx2) (hG : tG T q = 0) : ∃ m2, m2 < mu ∧ STE Fv P2 PR2 T C ND CN p m2 v := by
  obtain ⟨-, h2, h3, h4, h5, h6, h7, h8, h9⟩ := e
  obtain ⟨y1, y2, y3⟩ : tG T q = 0 ∧ F u 152 = 0 ∧ CLG u (sR T pc (fr - 1) + tR T q) 0 mu := by
    rcases h9 with y | ⟨y1, c, s, many, hg, hb', mm', r, t1, t2, -⟩
    · exact y
    · omega
  obtain ⟨n1, n2', n3, n4, n5, n6, n7, n8, n9⟩ := hx
  have fi : ∀ k, k ∈ [152, 164, 165] → F v k = F u k := fun k hk => FR.F f (by
    rcases hi k (by revert hk; simp; omega) with z | ⟨-, z⟩
    · exact z
    · exfalso; revert hk; simp; omega)
  obtain ⟨e1, e2, e3, e4⟩ := y3
  refine ⟨mu - 1, by omega, fr, ro, rn, rh, cb, pc, ct, m, n2, ow2, kd2, bx2, ⟨by rw [n1, n2']; exact i, by rw [n4, n8]; exact FRS_98 h2 f (fun k hk => ha k (by revert hk; simp; omega)) h98', h98, hm, by rw [n3]; exact h4, by rw [FR.A f (ha _ (by decide)), n4]; exact h5⟩, h109, Or.inl ⟨by rw [n5]; exact hG, by rw [fi _ (by decide)]; exact y2, ?_⟩⟩
  unfold CLG
  rw [fi _ (by decide), fi _ (by decide)]
  exact ⟨e1, e2, e3, by omega⟩
theorem nm_loop {a : Int32} (d : DW Fv P PR w) : ∀ (m k : Nat), k ≤ PR → PR - k < m → OK (fun w2 r => w2 = w ∧ (r = I (-1) ∨ ∃ z : Nat, z < PR ∧ r = I z)) (gg_M_namedBy N m w a (I k)) := by
  have pr := d.1.2
  intro m
  induction m with
  | zero => intro k _ h; omega
  | succ m ih =>
    intro k hk hm
    show OK _ (fb_M_namedBy_2 N (gg_M_namedBy N m) w a (I k))
    unfold fb_M_namedBy_2 fb_M_namedBy_32
    rw [I_F' d.1.1, decI (by omega) (by omega) (by omega) (by omega)]
    refine ok_br.mpr ⟨fun _ => ok_some.mpr ⟨rfl, Or.inl rfl⟩, fun z => ?_⟩
    have z' := of_decide_eq_false z
    have nxt : OK (fun w2 r => w2 = w ∧ (r = I (-1) ∨ ∃ z : Nat, z < PR ∧ r = I z)) (gg_M_namedBy N m w a (I k + 1)) := by
      rw [lit1q, I_add, show (k : Int) + 1 = ((k + 1 : Nat) : Int) from by omega]
      exact ih (k + 1) (by omega) (by omega)
    exact ok_ck.mpr ⟨inb_at (k := 113) (n := 24) rfl (by omega) (by omega) (by decide), ok_br.mpr ⟨fun _ => ok_ck.mpr ⟨inb_at (k := 109) (n := 24) rfl (by omega) (by omega) (by decide), ok_br.mpr ⟨fun _ => nxt, fun _ => ok_some.mpr ⟨rfl, Or.inr ⟨k, by omega, rfl⟩⟩⟩⟩, fun _ => nxt⟩⟩
theorem namedBy_ok {a : Int32} (d : DW Fv P PR w) (hN : 100 ≤ N) : OK (fun w2 r => w2 = w ∧ (r = I (-1) ∨ ∃ z : Nat, z < PR ∧ r = I z)) (fm_M_namedBy N w a) := by
  have pr := d.1.2
  unfold fm_M_namedBy fb_M_namedBy_0
  exact nm_loop (N := N) d N 0 (by omega) (by omega)
theorem finX {is ls as js : List Nat} (e : ERX Fv P PR T C ND CN p u fr ro rn rh cb pc ct q n ow kd opM bnM bxM mu) (hG : tG T q = 0) (hm : m < ND) (hx : NX T q m h mm) (f : FR is ls as js u v) (hi : ∀ k, k ∈ [149, 150, 151, 152, 153, 154, 155, 156, 157, 158, 159, 164, 165] → k ∉ is ∨ k = 150) (ha : ∀ k, k ∈ [23, 25, 31, 41, 95, 98, 99, 100, 101, 102, 103, 104, 105, 106] → k ∉ as) (hj : 111 ∉ js) (h98 : A u 98 (60 * p + (fr - 1)) = ((m : Nat) : Int)) (h109 : A v 109 p = 0 ∨ A v 109 p = 3) (i : MEX Fv (PQ AN PR2) PR2 v p n2 ow2 kd2 (ro (fr - 1) + h) (rn (fr - 1) + rh (fr - 1) + mm) bx2) (hw : WLD v T ND UN FN PR2 p) (g : GFR u v) : RSW Fv AN T C ND CN UN FN p mu u v := by
  refine ⟨PR2, i.2.1, ?_, hw, g⟩
  rcases h109 with h | h
  · exact Or.inr (Or.inr (Or.inr (nxtP e hm hx f (fun k hk => by rcases hi k hk with z | z; exact Or.inl z; exact Or.inr ⟨hG, Or.inl z⟩) (fun k hk => ha k (by revert hk; simp; omega)) hj (by rw [FR.A f (ha _ (by decide))]; exact h98) (fun j _ => FR.A f (ha _ (by decide))) h (MEX_i i (by omega)) hG)))
  · exact Or.inl ⟨i.1, h⟩
end
end
section
section
variable {Fv : Int64 → Int64 → Prop} {P P2 : Int64 → Prop} {u v w w2 : MS} {PR PR2 N p n n2 opM bnM bxM bx2 ND fr k tp mu CN PN SN UN FN rq q m h mm AN : Nat} {ow kd ow2 kd2 ro rn rh cb pc ct pM pE : Nat → Nat} {T : TY} {C : CY}
theorem TM_me {q : Nat} {t : Int64} (i : MEI Fv P PR u p n ow kd opM bnM bxM) (g : GT n ow kd P t) : TM Fv P u q p t := by
  have x4 := MEI_p i
  by_cases e : p = q
  · subst e; exact Or.inr (Or.inr ⟨rfl, n, ow, kd, opM, bnM, bxM, i.2.2.2.2.1, i.2.2.2.2.2, g⟩)
  · exact Or.inr (Or.inl ⟨by omega, e, n, ow, kd, i.2.2.2.2.1, i.2.2.2.2.2.2.2.1, i.2.2.2.2.2.2.1, g⟩)
theorem MSG_me {q : Nat} (e : ERX Fv P PR T C ND CN p u fr ro rn rh cb pc ct q n ow kd opM bnM bxM mu) {z : Nat} (h : MSG Fv P PR u z v) : ∃ n2 ow2 kd2 bx2, MEX Fv P PR v p n2 ow2 kd2 opM bnM bx2 := by
  have i := e.1
  exact MEX_of h.1 i.2.1 (by rw [FR.F h.2.1 (by decide)]; exact i.2.2.1) (by rw [FR.A h.2.1 (by decide)]; exact i.2.2.2.2.2.2.2.2.2.1.1) (by rw [FR.A h.2.1 (by decide)]; exact i.2.2.2.2.2.2.2.2.2.2.1.1)
theorem MSG_109 {z y : Nat} (h : MSG Fv P PR u z v) : A v 109 y = A u 109 y ∨ A v 109 y = 3 := by
  by_cases e : y = z
  · subst e; exact h.2.2.2.1
  · exact Or.inl (h.2.2.1 y e).1
theorem i11 (e : ERX Fv (PQ AN PR) PR T C ND CN p u fr ro rn rh cb pc ct q n ow kd (ro (fr - 1) + tH T q) (rn (fr - 1) + rh (fr - 1) + tM T q) bxM mu) (hp' : PGM Fv (PQ AN PR) PR T C pM pE ND CN PN SN UN FN u) (hw : WLD u T ND UN FN PR p) (hG : tG T q = 0) (hq : tB T q + 2 ≤ tH T q) (hm : m < ND) (hx : NX T q m (tH T q - 1) (tM T q)) (h98 : A u 98 (60 * p + (fr - 1)) = ((m : Nat) : Int)) (hN : 60000 ≤ N) : OK (fun v _ => RSW Fv AN T C ND CN UN FN p mu u v) (fm_M_sendRun N u) := by
  have i := e.1
  have x4 := MEI_p i
  have hH := (hp'.1.2.2.1 q e.2.2.1).1.1
  have hf := e.2.1.1
  have hro := (e.2.1.2.2.1 (fr - 1) (by omega)).2.2.2.2.1
  have hT := PRG_26 hp'.1
  obtain ⟨t1, g1⟩ := top_ok (N := N) (k := 1) i (by omega)
  obtain ⟨t0, g0⟩ := top_ok (N := N) (k := 0) i (by omega)
  have y41 : ∀ r : Int32, (r = I (-1) ∨ ∃ z : Nat, z < PR ∧ r = I z) → OK (fun v _ => RSW Fv AN T C ND CN UN FN p mu u v) (fb_M_sendRun_41 N () u r) := fun r hr => by
    unfold fb_M_sendRun_41
    have bad : OK (fun v _ => RSW Fv AN T C ND CN UN FN p mu u v) (bnd (fr_M_error N u 11) (fun u6 _ => some (u6, ()))) := ok_bnd.mpr (ok_mono (err_ok (N := N) (a := 11) e hp' (by omega) hN) (fun y _ hy => ok_some.mpr (RES_rsw hy hw hT i.2.1)))
    refine ok_br.mpr ⟨fun _ => bad, fun z1 => ?_⟩
    obtain ⟨z, hz, rfl⟩ : ∃ z : Nat, z < PR ∧ r = I z := by
      rcases hr with y | y
      · exact absurd y (of_decide_eq_false z1)
      · exact y
    have pr := i.1.1.2
    rw [show (0 : Int32) = I ((0 : Nat) : Int) from rfl, t0, bnd_so, I_F' i.2.2.1, show (2 : Int32) = I ((2 : Nat) : Int) from rfl]
    refine ok_bnd.mpr (ok_mono (message_ok (N := N) (sort := 2) (p := 0) (r := 0) (wr := 0) (o := p) i.1 hz hp'.2.1 (by omega) (fun z => by omega) (by omega) (by omega) (by omega) (fun _ => TM_me i g0) hN) (fun v _ hv => ?_))
    obtain ⟨n2, ow2, kd2, bx2, ix⟩ := MSG_me e hv
    rw [show ro (fr - 1) + tH T q = ro (fr - 1) + (tH T q - 2) + 1 + 1 from by omega] at ix
    refine ok_bnd.mpr (ok_mono (take_x (N := N) ix) (fun v1 r3 hv1 => ?_))
    obtain ⟨a1, a2, a3, a4⟩ := hv1
    refine ok_bnd.mpr (ok_mono (take_x (N := N) a4) (fun v2 r4 hv2 => ?_))
    obtain ⟨b1, b2, b3, b4⟩ := hv2
    refine ok_bnd.mpr (ok_mono (put_x (N := N) b4 a3 (by omega)) (fun v3 _ hv3 => ok_some.mpr ?_))
    obtain ⟨c1, c2, c3⟩ := hv3
    have f1 : FR [] [] [92] [91] v v3 := FR.tr a1 (FR.tr b1 c1)
    have f2 : FR [136, 138, 140, 150] [139] [89, 90, 92, 108, 109, 135, 142, 145, 146, 147] [88, 91, 93, 107, 134, 137, 141, 148] u v3 := FR.tr (FR.mo hv.2.1 (by decide) (by decide) (by decide) (by decide)) (FR.mo f1 (by decide) (by decide) (by decide) (by decide))
    have o1 : OTF p u v3 := OTF.tr (OTF_fr hv.2.1 (by decide)) (OTF.tr a2 (OTF.tr b2 c2))
    have h109 : ∀ y, A v3 109 y = A u 109 y ∨ A v3 109 y = 3 := fun y => by rw [FR.A f1 (by decide)]; exact MSG_109 hv
    have p0 := e.2.2.2.2.2.1
    exact finX e hG hm hx f2 (by decide) (by decide) (by decide) h98 (by have := h109 p; omega) (by rw [show ro (fr - 1) + (tH T q - 1) = ro (fr - 1) + (tH T q - 2) + 1 from by omega]; exact c3) (WLD_fr hw hT o1 f2 (by decide) (by decide) (fun z _ => h109 z)) (FR.mo f2 (by decide) (by decide) (by decide) (by decide))
  unfold fm_M_sendRun fb_M_sendRun_0
  have rs := so_r (u.2.2.2 91 (46000 * p + (ro (fr - 1) + tH T q - 1 - 1)))
  rw [show (1 : Int32) = I ((1 : Nat) : Int) from rfl, t1, bnd_so, sortOf_e, bnd_so, show (4 : Int32) = I 4 from rfl, decE rs.1 rs.2 (by omega) (by omega)]
  refine ok_br.mpr ⟨fun z4 => ?_, fun _ => ?_⟩
  · rw [valueOf_e, bnd_so]
    have e4 := of_decide_eq_true z4
    obtain ⟨z, z1, z2⟩ : ∃ z : Nat, z < PR ∧ va (u.2.2.2 91 (46000 * p + (ro (fr - 1) + tH T q - 1 - 1))) = z := by
      rcases g1 with ⟨-, y⟩ | ⟨y, -⟩
      · rcases y with y | y | y | y | ⟨-, y1, y2⟩
        · omega
        · omega
        · omega
        · omega
        · exact ⟨(va (u.2.2.2 91 (46000 * p + (ro (fr - 1) + tH T q - 1 - 1)))).toNat, by omega, by omega⟩
      · rcases y with y | y | y <;> omega
    rw [z2]
    exact y41 _ (Or.inr ⟨z, z1, rfl⟩)
  · rw [sortOf_e, bnd_so]
    refine ok_br.mpr ⟨fun _ => ?_, fun _ => y41 _ (Or.inl rfl)⟩
    rw [valueOf_e, bnd_so]
    refine ok_bnd.mpr (ok_mono (namedBy_ok (N := N) i.1 (by omega)) (fun v r hv => ?_))
    obtain ⟨v1, v2⟩ := hv
    subst v1
    exact y41 r v2
end
end
section
section
variable {Fv : Int64 → Int64 → Prop} {P P2 : Int64 → Prop} {u v w w2 x y : MS} {PR PR2 N p n n2 opM bnM bxM bx2 ND fr k tp mu CN PN SN UN FN rq q m h mm AN : Nat} {ow kd ow2 kd2 ro rn rh cb pc ct pM pE : Nat → Nat} {T : TY} {C : CY}
theorem RES_via {is ls as js : List Nat} (f : FR is ls as js u x) (o : OTF p u x) (r : RES Fv (PQ AN PR) PR T C ND CN p mu x y) (hw : WLD u T ND UN FN PR p) (hT : ∀ q, q < ND → tK T q ≤ 26) (hp : p < PR) (hi : ∀ k, k ∈ [125, 128] → k ∉ is) (ha : ∀ k, k ∈ 109 :: 116 :: 117 :: 123 :: 124 :: 127 :: 132 :: KP → k ∉ as) (h1 : ∀ k, k ∈ is → k ∈ [118, 119, 121, 125, 128, 136, 138, 140, 144, 150, 151, 152, 153, 154, 155, 156, 157, 158, 159, 165, 166, 169]) (h2 : ∀ k, k ∈ ls → k ∈ [139]) (h3 : ∀ k, k ∈ as → k ∈ [89, 90, 92, 94, 95, 96, 97, 98, 99, 100, 101, 102, 103, 104, 105, 106, 108, 109, 110, 112, 113, 114, 115, 116, 117, 122, 123, 124, 126, 127, 132, 135, 142, 143, 145, 146, 147, 160, 162, 168, 170]) (h4 : ∀ k, k ∈ js → k ∈ [88, 91, 93, 107, 111, 134, 137, 141, 148, 161, 163, 167]) : RSW Fv AN T C ND CN UN FN p mu u y :=
  RSW.pre (FR.mo f h1 h2 h3 h4) (RES_rsw r (WLD_fr hw hT o f hi (fun k hk => ha k (List.mem_cons_of_mem _ hk)) (fun z _ => Or.inl (FR.A f (ha _ (by decide))))) hT hp)
theorem PQ_pid {t : Int64} (g : GT n ow kd (PQ AN PR) t) (h4 : so t = 4) : ∃ z : Nat, z < PR ∧ va t = z := by
  rcases g with ⟨-, y⟩ | ⟨y, -⟩
  · rcases y with y | y | y | y | ⟨-, y1, y2⟩
    · omega
    · omega
    · omega
    · omega
    · exact ⟨(va t).toNat, by omega, by omega⟩
  · rcases y with y | y | y <;> omega
theorem br_t_of {α : Type} {b : Bool} {x y : α} (h : b = true) : br b x y = x := by rw [h]; rfl
theorem br_f_of {α : Type} {b : Bool} {x y : α} (h : b = false) : br b x y = y := by rw [h]; rfl
theorem isK113 : isK 113 4 = true := by decide
theorem nameR {k : Nat} (e : ERX Fv (PQ AN PR) PR T C ND CN p u fr ro rn rh cb pc ct q n ow kd (ro (fr - 1) + tH T q) (rn (fr - 1) + rh (fr - 1) + tM T q) bxM mu) (hp' : PGM Fv (PQ AN PR) PR T C pM pE ND CN PN SN UN FN u) (hw : WLD u T ND UN FN PR p) (hk : k = 13 ∨ k = 14 ∨ k = 15) (hq : tB T q + npre k ≤ tH T q) (hm : m < ND) (hx : NX T q m (tH T q + 1 - npre k) (tM T q)) (h98 : A u 98 (60 * p + (fr - 1)) = ((m : Nat) : Int)) (hN : 60000 ≤ N) : OK (fun v _ => RSW Fv AN T C ND CN UN FN p mu u v) (fm_M_nameRun N u (I k)) := by
  have i := e.1
  have x4 := MEI_p i
  have hH := (hp'.1.2.2.1 q e.2.2.1).1.1
  have hf := e.2.1.1
  have hro := (e.2.1.2.2.1 (fr - 1) (by omega)).2.2.2.2.1
  have hT := PRG_26 hp'.1
  have pr := i.1.1.2
  have nk : (k = 13 ∧ npre k = 2) ∨ (k ≠ 13 ∧ npre k = 1) := by rcases hk with z | z | z <;> subst z <;> decide
  have core : ∀ (v : MS) (t0 : Int64), ERX Fv (PQ AN PR) PR T C ND CN p v fr ro rn rh cb pc ct q n ow kd (ro (fr - 1) + (tH T q - npre k) + 1) (rn (fr - 1) + rh (fr - 1) + tM T q) bxM mu → (k = 13 → GT n ow kd (PQ AN PR) t0) → FR [] [] [92] [] u v → OTF p u v → OK (fun y _ => RSW Fv AN T C ND CN UN FN p mu u y) (fb_M_nameRun_14 N () v (I k) t0) := fun v t0 ev g0 fv ov => by
    unfold fb_M_nameRun_14
    refine ok_bnd.mpr (ok_mono (takeE (N := N) ev (by omega)) (fun w t hw' => ?_))
    obtain ⟨w1, gt, w3, w4⟩ := hw'
    have fw : FR [] [] [92] [] u w := FR.tr fv w3
    have ow' : OTF p u w := OTF.tr ov w4
    have dw := w1.1.1
    have er : OK (fun y _ => RSW Fv AN T C ND CN UN FN p mu u y) (bnd (fr_M_error N w 11) (fun u9 _ => fb_M_nameRun_236 N () u9)) := by
      unfold fb_M_nameRun_236
      exact ok_bnd.mpr (ok_mono (err_ok (N := N) (a := 11) w1 (PGM_fr hp' fw (by decide) (by decide)) (by omega) hN) (fun y _ hy => ok_some.mpr (RES_via fw ow' hy hw hT i.2.1 (by decide) (by decide) (by decide) (by decide) (by decide) (by decide))))
    have pt : ∀ x, FR [] [] [113] [] w x → ∀ t, GT n ow kd (PQ AN PR) t → OK (fun y _ => RSW Fv AN T C ND CN UN FN p mu u y) (bnd (fm_M_put N x t) (fun u3 _ => fb_M_nameRun_236 N () u3)) := fun x fx t gt => by
      unfold fb_M_nameRun_236
      have ix := MEI_fr w1.1 fx (by decide) (by decide) (by decide) (by decide) (by decide) (by decide) (by decide) (by decide) (by decide) (by decide) (by decide) (by decide) (by decide) (by decide) (by decide) (by decide) (by decide) (by decide)
      have ex := ERX_fr w1 fx (by decide) (by decide) (by decide) ix (by omega) (Nat.le_refl _)
      have fu : FR [] [] [92, 113] [] u x := FR.tr (FR.mo fw (by decide) (by decide) (by decide) (by decide)) (FR.mo fx (by decide) (by decide) (by decide) (by decide))
      exact ok_bnd.mpr (ok_mono (putR (N := N) ex hm hx (by rw [FR.A fu (by decide)]; exact h98) (by omega) rfl gt (by omega)) (fun y _ hy => ok_some.mpr (RES_via fu (OTF.tr ow' (OTF_fr fx (by decide))) hy hw hT i.2.1 (by decide) (by decide) (by decide) (by decide) (by decide) (by decide))))
    have y227 : ∀ (z : Nat) (t2 : Int32), z < PR → OK (fun y _ => RSW Fv AN T C ND CN UN FN p mu u y) (fb_M_nameRun_227 N () w 113 (I z) t2) := fun z t2 hz => by
      unfold fb_M_nameRun_227
      rw [isK113, ck_t]
      refine ok_ck.mpr ⟨inb_at (k := 113) (n := 24) rfl (by omega) (by omega) (by decide), ok_lt.mpr ?_⟩
      rw [I_tn (x := (z : Int)) (by omega) (by omega), Int.toNat_natCast, I_of t2, wa_e, truth1, bnd_so]
      exact pt _ (FR.wa FR.rf (by decide)) _ (GT_atom hp'.2.1 (by omega))
    have y146 : ∀ (v6 v7 : Int32), (v6 = I (-1) ∨ ∃ z : Nat, z < PR ∧ v6 = I z) → (v7 ≠ 0 → (k = 13 → so t0 = 4) ∧ (k = 14 → v6 ≠ I (-1))) → OK (fun y _ => RSW Fv AN T C ND CN UN FN p mu u y) (fb_M_nameRun_146 N () w (I k) t0 t v6 v7) := fun v6 v7 h6 h7 => by
      unfold fb_M_nameRun_146 fb_M_nameRun_212 fb_M_nameRun_187
      rw [show (15 : Int32) = I 15 from rfl, show (13 : Int32) = I 13 from rfl, decE (by omega) (by omega) (by omega) (by omega), decE (by omega) (by omega) (by omega) (by omega)]
      refine ok_br.mpr ⟨fun _ => er, fun z7 => ok_br.mpr ⟨fun _ => ok_br.mpr ⟨fun _ => ?_, fun z6 => ?_⟩, fun z15 => ok_br.mpr ⟨fun z13 => ?_, fun z13 => ?_⟩⟩⟩
      · rw [lit1q, show (3 : Int32) = I 3 from rfl, term_e, bnd_so]
        exact pt w FR.rf _ (GT_atom hp'.2.1 (by omega))
      · rcases h6 with h6 | ⟨z, hz, h6⟩
        · exact absurd h6 (of_decide_eq_false z6)
        · rw [h6, show (4 : Int32) = I 4 from rfl, term_e, bnd_so]
          exact pt w FR.rf _ (Or.inl ⟨nh_mk (by omega), hp'.2.1.2.1 z hz⟩)
      · have e13 : k = 13 := by have := of_decide_eq_true z13; omega
        obtain ⟨z, hz, ez⟩ := PQ_pid (g0 e13) ((h7 (of_decide_eq_false z7)).1 e13)
        rw [valueOf_e, bnd_so, br_t_of z13, valueOf_e, bnd_so, ez]
        exact y227 z _ hz
      · have e14 : k = 14 := by have := of_decide_eq_false z13; have := of_decide_eq_false z15; omega
        rcases h6 with h6 | ⟨z, hz, h6⟩
        · exact absurd h6 ((h7 (of_decide_eq_false z7)).2 e14)
        · rw [h6, br_f_of z13]
          exact y227 z _ hz
    have y59 : ∀ v6 : Int32, (v6 = I (-1) ∨ ∃ z : Nat, z < PR ∧ v6 = I z) → ∀ b : Int32, OK (fun y _ => RSW Fv AN T C ND CN UN FN p mu u y) (fb_M_nameRun_59 N () w (I k) t0 t v6 b) := fun v6 h6 b => by
      unfold fb_M_nameRun_59 fb_M_nameRun_116 fb_M_nameRun_143 fb_M_nameRun_117 fb_M_nameRun_144
      have y0 := y146 v6 0 h6 (fun z => absurd rfl z)
      rw [show (13 : Int32) = I 13 from rfl, show (14 : Int32) = I 14 from rfl, decE (by omega) (by omega) (by omega) (by omega), decE (by omega) (by omega) (by omega) (by omega)]
      refine ok_br.mpr ⟨fun z13 => ok_br.mpr ⟨fun _ => y0, fun _ => ok_br.mpr ⟨fun _ => ?_, fun _ => y0⟩⟩, fun z13 => ok_br.mpr ⟨fun z14 => ok_br.mpr ⟨fun _ => y0, fun _ => ok_br.mpr ⟨fun _ => y0, fun z6 => ?_⟩⟩, fun z14 => ?_⟩⟩
      · have e13 : k = 13 := by have := of_decide_eq_true z13; omega
        have r0 := so_r t0
        rw [sortOf_e, bnd_so, show (4 : Int32) = I 4 from rfl, decE r0.1 r0.2 (by omega) (by omega)]
        refine ok_br.mpr ⟨fun z4 => ?_, fun _ => y0⟩
        have e4 := of_decide_eq_true z4
        obtain ⟨z, hz, ez⟩ := PQ_pid (g0 e13) e4
        rw [valueOf_e, bnd_so, ez]
        refine ok_ck.mpr ⟨inb_at (k := 109) (n := 24) rfl (by omega) (by omega) (by decide), ok_br.mpr ⟨fun _ => y0, fun _ => ?_⟩⟩
        rw [valueOf_e, bnd_so, ez]
        exact ok_ck.mpr ⟨inb_at (k := 113) (n := 24) rfl (by omega) (by omega) (by decide), ok_br.mpr ⟨fun _ => y146 v6 1 h6 (fun _ => ⟨fun _ => e4, fun z => by omega⟩), fun _ => y0⟩⟩
      · exact y146 v6 1 h6 (fun _ => ⟨fun z => by have := of_decide_eq_false z13; omega, fun _ => of_decide_eq_false z6⟩)
      · have := of_decide_eq_false z13
        have := of_decide_eq_false z14
        exact y146 v6 b h6 (fun _ => ⟨fun z => by omega, fun z => by omega⟩)
    have y43 : ∀ v6 : Int32, (v6 = I (-1) ∨ ∃ z : Nat, z < PR ∧ v6 = I z) → OK (fun y _ => RSW Fv AN T C ND CN UN FN p mu u y) (fb_M_nameRun_43 N () w (I k) t0 t v6) := fun v6 h6 => by
      unfold fb_M_nameRun_43
      rw [sortOf_e, bnd_so]
      exact ok_br.mpr ⟨fun _ => y59 v6 h6 1, fun _ => y59 v6 h6 0⟩
    rw [sortOf_e, bnd_so]
    refine ok_br.mpr ⟨fun _ => ?_, fun _ => y43 _ (Or.inl rfl)⟩
    rw [valueOf_e, bnd_so]
    refine ok_bnd.mpr (ok_mono (namedBy_ok (N := N) dw (by omega)) (fun x r hx' => ?_))
    obtain ⟨x1, x2⟩ := hx'
    subst x1
    exact y43 r x2
  unfold fm_M_nameRun fb_M_nameRun_0
  rw [show (13 : Int32) = I 13 from rfl, decE (by omega) (by omega) (by omega) (by omega)]
  refine ok_br.mpr ⟨fun z13 => ?_, fun z13 => ?_⟩
  · have e13 : k = 13 := by have := of_decide_eq_true z13; omega
    have n2 : npre k = 2 := by omega
    have e' := e
    rw [show ro (fr - 1) + tH T q = ro (fr - 1) + (tH T q - npre k) + 1 + 1 from by omega] at e'
    refine ok_bnd.mpr (ok_mono (takeE (N := N) e' (by omega)) (fun v t hv => ?_))
    obtain ⟨v1, gt, v3, v4⟩ := hv
    exact core v t v1 (fun _ => gt) v3 v4
  · have e13 : k ≠ 13 := by have := of_decide_eq_false z13; omega
    have e' := e
    rw [show ro (fr - 1) + tH T q = ro (fr - 1) + (tH T q - npre k) + 1 from by omega] at e'
    exact core u 0 e' (fun z => absurd z e13) FR.rf (OTF_fr (FR.rf : FR [] [] [] [] u u) (by decide))
end
end
