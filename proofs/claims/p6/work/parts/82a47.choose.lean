section
variable {Fv : Int64 → Int64 → Prop} {P : Int64 → Prop} {w w2 : MS} {PR N p n n2 opM bnM bxM ND fr k tp mu CN PN SN UN FN rq : Nat} {ow kd ow2 kd2 ro rn rh cb pc ct pM pE : Nat → Nat} {T : TY} {C : CY}
theorem TRS_fr {is ls as js : List Nat} {a1 a2 a3 s many hg hb m r : Nat} (ht : TRS w T C ND CN p a1 a2 a3 k tp s many hg hb m r bxM) (f : FR is ls as js w w2) (hi : ∀ k, k ∈ [149, 150, 151, 153, 154, 155, 156, 158, 159] → k ∉ is) (ha : ∀ k, k ∈ [23, 25, 31, 41] → k ∉ as) (hj : 111 ∉ js) : TRS w2 T C ND CN p a1 a2 a3 k tp s many hg hb m r bxM := by
  obtain ⟨⟨s1, s2⟩, u1, u2, u3, u4⟩ := ht
  have cls : ∀ x, CLS C w CN many hg hb m a3 k tp r x → CLS C w2 CN many hg hb m a3 k tp r x := fun x ⟨c', d1, d2, d3, d4⟩ => ⟨c', d1, d2, by rw [FR.A f (ha _ (by decide))]; exact d3, d4⟩
  refine ⟨⟨by rw [FR.F f (hi _ (by decide))]; exact s1, s2⟩, by rw [FR.F f (hi _ (by decide))]; exact u1, ?_, fun z => ?_, fun z => ?_, by rw [FR.F f (hi _ (by decide)), FR.F f (hi _ (by decide)), FR.F f (hi _ (by decide))]; exact u4.2⟩
  · rw [FR.F f (hi _ (by decide))]
    rcases u2 with u2 | u2
    · exact Or.inl u2
    · exact Or.inr (cls _ u2)
  · obtain ⟨v0, v1, v2, q, v3, v4, v5, v6⟩ := u3 z
    obtain ⟨v6, v7, v8, v9, v10, v11, v12, v13⟩ := v6
    rw [FR.F f (hi _ (by decide)), FR.F f (hi _ (by decide))]
    exact ⟨cls _ v0, v1, v2, q, by rw [FR.F f (hi _ (by decide))]; exact v3, v4, by rw [FR.A f (ha _ (by decide))]; exact v5, v6, v7, v8, v9, v10, v11, v12, fun y => by rw [FR.A f (ha _ (by decide))] at y; rw [f.2.2.2 111 hj]; exact v13 y⟩
  · rw [FR.A f (ha _ (by decide))]; exact u4.1 z
theorem TRS_at {is ls as js : List Nat} {a1 a2 a3 s many hg hb m r : Nat} (ht : TRS w T C ND CN p a1 a2 a3 k tp s many hg hb m r bxM) (f : FR is ls as js w w2) (hi : ∀ k, k ∈ [149, 150, 151, 153, 155, 156, 159] → k ∉ is) (ha : ∀ k, k ∈ [23, 25, 31, 41] → k ∉ as) (hj : 111 ∉ js) (h4 : F w2 154 = -1 ∨ CLS C w CN many hg hb m a3 k tp r (F w2 154)) (h8 : s = 3 → 0 ≤ F w2 158 ∧ F w2 158 < bxM) : TRS w2 T C ND CN p a1 a2 a3 k tp s many hg hb m r bxM := by
  obtain ⟨⟨s1, s2⟩, u1, u2, u3, u4⟩ := ht
  have cls : ∀ x, CLS C w CN many hg hb m a3 k tp r x → CLS C w2 CN many hg hb m a3 k tp r x := fun x ⟨c', d1, d2, d3, d4⟩ => ⟨c', d1, d2, by rw [FR.A f (ha _ (by decide))]; exact d3, d4⟩
  refine ⟨⟨by rw [FR.F f (hi _ (by decide))]; exact s1, s2⟩, by rw [FR.F f (hi _ (by decide))]; exact u1, ?_, fun z => ?_, fun z => ?_, by rw [FR.F f (hi _ (by decide)), FR.F f (hi _ (by decide)), FR.F f (hi _ (by decide))]; exact u4.2⟩
  · rcases h4 with u2 | u2
    · exact Or.inl u2
    · exact Or.inr (cls _ u2)
  · obtain ⟨v0, v1, v2, q, v3, v4, v5, v6⟩ := u3 z
    obtain ⟨v6, v7, v8, v9, v10, v11, v12, v13⟩ := v6
    rw [FR.F f (hi _ (by decide))]
    exact ⟨cls _ v0, (h8 z).1, (h8 z).2, q, by rw [FR.F f (hi _ (by decide))]; exact v3, v4, by rw [FR.A f (ha _ (by decide))]; exact v5, v6, v7, v8, v9, v10, v11, v12, fun y => by rw [FR.A f (ha _ (by decide))] at y; rw [f.2.2.2 111 hj]; exact v13 y⟩
  · rw [FR.A f (ha _ (by decide))]; exact u4.1 z
set_option maxRecDepth 100000 in
theorem choose_loop {S S1 S2 S3 : SG_M_error} {s many hg hb m r : Nat} (hS0 : S.2.2.1 = fm_M_nonePart N S1) (hS1 : S1.1 = fm_M_error N S2) (hS2 : S1.2.1 = fm_M_errorOf N S2) (hS3 : S2.2.2.2.2.2 = fm_M_goesUp N S3) (hg' : PRG w T C pM pE ND CN PN SN UN FN) (hPB : PB P PR) (hF : FVH Fv) (hat : ATM w) (hP : ∀ t, P t → PA w t) (h : FRS w T ND p fr ro rn rh cb pc ct k tp) (h106 : A w 106 p = ((cb (fr - 1) + k : Nat) : Int)) (h109 : A w 109 p = 0) (h152 : F w 152 = 0) (hN : 60000 ≤ N) :
    ∀ (fu B d b ctt : Nat) (v : MS), FR [154, 158] [] [94, 110, 160, 162] [93, 141, 161, 163] w v → OTF p w v → MEI Fv P PR v p n ow kd (ro (fr - 1) + hg) b bxM → rn (fr - 1) + rh (fr - 1) + m ≤ b → TRS v T C ND CN p (ro (fr - 1)) (rn (fr - 1)) (rh (fr - 1)) k tp s many hg hb m r bxM → (s = 3 → F v 158 + B = bxM) → (s ≠ 3 → B = 0) → 1 ≤ ctt → (∀ c : Nat, F v 154 = c → CN - c = d ∧ cT C c + 1 < ctt) → CLG v (sR T pc (fr - 1) + r) ((B * 16002 + ctt : Nat) : Int) mu → B * 1500 + d + 1 < fu → OK (fun w2 _ => RES Fv P PR T C ND CN p mu w w2) (gg_M_choose N S fu v (I 1)) := by
  intro fu
  induction fu with
  | zero => intro B d b ctt v _ _ _ _ _ _ _ _ _ _ z; exact absurd z (Nat.not_lt_zero _)
  | succ fu ih =>
    intro B d b ctt v fv ov iv hb' tv hB hB0 hc1 hd cl hf
    have x4 := MEI_p iv
    have hf60 := h.1
    have cn := hg'.1.2.1
    have nd := hg'.1.1
    have hro := (h.2.2.1 (fr - 1) (by omega)).2.2.2.2
    have rgo : -2147483648 ≤ ((ro (fr - 1) + hg : Nat) : Int) ∧ ((ro (fr - 1) + hg : Nat) : Int) < 2147483648 := by have := tv.1.2.2.2.2.2.2.2.1; omega
    have zero : ∀ u : MS, RES Fv P PR T C ND CN p mu w u → OK (fun w2 _ => RES Fv P PR T C ND CN p mu w w2) (gg_M_choose N S fu u (I 0)) := fun u hu => by
      obtain ⟨f2, hf2⟩ : ∃ f2, fu = f2 + 1 := ⟨fu - 1, by omega⟩
      subst hf2
      show OK _ (fb_M_choose_2 N S (gg_M_choose N S f2) u (I 0))
      unfold fb_M_choose_2
      rw [lit0q, decide_eq_true rfl, br_tq]
      exact ok_some.mpr hu
    show OK _ (fb_M_choose_2 N S (gg_M_choose N S fu) v (I 1))
    unfold fb_M_choose_2
    obtain ⟨⟨s1, s2, s3, s4, s42, s5, s6, s7, s8, s9⟩, u1, -, u3, -⟩ := id tv
    rw [lit0q, decE (by omega) (by omega) (by omega) (by omega), decide_eq_false (by omega), br_fq, I_F' iv.2.2.1]
    refine ok_ck.mpr ⟨inb_at (k := 94) (n := 24) rfl (by omega) (by omega) (by decide), ok_lt.mpr ?_⟩
    rw [I_tn (x := (p : Int)) (by omega) (by omega), Int.toNat_natCast, I_F' u1, wa_e]
    have f1 : FR [] [] [94] [] v (wa v 94 p ((rn (fr - 1) + rh (fr - 1) + m : Nat) : Int)) := FR.wa FR.rf (by decide)
    have o1 : OTF p v (wa v 94 p ((rn (fr - 1) + rh (fr - 1) + m : Nat) : Int)) := OTF_at f1 (i0 := p) (fun j hj => by rw [A_eq (by omega) (by omega), if_neg hj]) (Or.inl ⟨by decide, rfl⟩)
    have i1 := names_less iv (k := rn (fr - 1) + rh (fr - 1) + m) hb'
    generalize wa v 94 p ((rn (fr - 1) + rh (fr - 1) + m : Nat) : Int) = w1 at *
    have fw : FR [154, 158] [] [94, 110, 160, 162] [93, 141, 161, 163] w w1 := FR.tr fv (FR.mo f1 (by decide) (by decide) (by decide) (by decide))
    have ow1 : OTF p w w1 := OTF.tr ov o1
    have t1 := TRS_fr tv f1 (by decide) (by decide) (by decide)
    have g1 := PRG_fr hg' fw (by decide) (by decide)
    have h1 := FRS_fr h fw (by decide) (by decide) (by decide) (by decide) (by decide) (by decide) (by decide) (by decide) (by decide) (by decide)
    have a6 : A w1 106 p = ((cb (fr - 1) + k : Nat) : Int) := by rw [FR.A fw (by decide)]; exact h106
    have a9 : A w1 109 p = 0 := by rw [FR.A fw (by decide)]; exact h109
    have a52 : F w1 152 = 0 := by rw [FR.F fw (by decide)]; exact h152
    have cl1 : CLG w1 (sR T pc (fr - 1) + r) ((B * 16002 + ctt : Nat) : Int) mu := by unfold CLG; rw [FR.F f1 (by decide), FR.F f1 (by decide)]; exact cl
    have cl1' : CLG w1 (sR T pc (fr - 1) + r) 1 mu := by obtain ⟨e1, e2, e3, e4⟩ := cl1; exact ⟨e1, e2, e3, by omega⟩
    have e154 : F w1 154 = F v 154 := FR.F f1 (by decide)
    have e158 : F w1 158 = F v 158 := FR.F f1 (by decide)
    have r154 := F_r w1 154
    have back : ∀ u, RES Fv P PR T C ND CN p mu w1 u → RES Fv P PR T C ND CN p mu w u := fun u hu => RES.tr (FR.mo fw (by decide) (by decide) (by decide) (by decide)) ow1 (fun z _ => FR.A fw (by decide)) hu (Nat.le_refl _)
    rw [I_F (k := 154), litm1q, decE r154.1 r154.2 (by omega) (by omega)]
    refine ok_br.mpr ⟨fun zn => ?_, fun zn => ?_⟩
    · 
      rw [hS0]
      refine ok_bnd.mpr (ok_mono (nonePart_ok (N := N) (C := C) (CN := CN) hS1 hS2 hS3 i1 g1 hPB h1 t1 a6 a9 a52 cl1' hN) (fun u r8 hu => ?_))
      rcases hu with ⟨y1, y2⟩ | ⟨y1, y2, y3, y4, y5, y6, y7⟩
      · rw [y1]; exact zero u (back u y2)
      · rw [y1]
        obtain ⟨v0, v1, v2, -⟩ := t1.2.2.2.1 y2
        have v0' := v0
        obtain ⟨c', d1, d2, d3, d4⟩ := v0'
        have fu' : FR [154, 158] [] [94, 110, 160, 162] [93, 141, 161, 163] w u := FR.tr fw (FR.mo y3 (by decide) (by decide) (by decide) (by decide))
        have hB' := hB y2
        refine ih (B - 1) (CN - c') (rn (fr - 1) + rh (fr - 1) + m) 16002 u fu' (OTF.tr ow1 y7) (MEI_fr i1 y3 (by decide) (by decide) (by decide) (by decide) (by decide) (by decide) (by decide) (by decide) (by decide) (by decide) (by decide) (by decide) (by decide) (by decide) (by decide) (by decide) (by decide) (by decide)) (Nat.le_refl _) (TRS_at t1 y3 (by decide) (by decide) (by decide) (Or.inr (by rw [y6]; exact v0)) (fun _ => by omega)) (fun _ => by omega) (fun z => absurd y2 z) (by omega) (fun c hc => ?_) ?_ (by omega)
        · have : c = c' := by omega
          subst this
          exact ⟨rfl, by have := (hg'.2.2.2.1 c d2).2.1; omega⟩
        · obtain ⟨e1, e2, e3, e4⟩ := cl1
          unfold CLG
          rw [FR.F y3 (by decide), FR.F y3 (by decide)]
          refine ⟨e1, e2, e3, ?_⟩
          have : ((B - 1) * 16002 + 16002 : Nat) = B * 16002 := by omega
          rw [this]
          omega
    · 
      have zn' := of_decide_eq_false zn
      have u2' : CLS C w1 CN many hg hb m (rh (fr - 1)) k tp r (F w1 154) := by
        rcases t1.2.2.1 with u2 | u2
        · exact absurd u2 zn'
        · exact u2
      obtain ⟨c, hc, hc2⟩ : ∃ c : Nat, F w1 154 = c ∧ c < CN := by obtain ⟨c', d1, d2, -⟩ := u2'; exact ⟨c', d1, d2⟩
      rw [hc] at u2'
      obtain ⟨dd, ctl⟩ := hd c (by omega)
      obtain ⟨-, c41, c3, c4, c5, c6, cg, -, cx⟩ := cls_c (s := 0) g1 u2'
      refine ok_bnd.mpr (ok_mono (fitsPart_ok (N := N) i1 g1 hF (ATM_fr hat fw (by decide) (by decide)) (PA_fr hP fw (by decide)) h1 t1 hc (by omega)) (fun u r2 hu => ?_))
      obtain ⟨y1, y2⟩ := hu
      have f2 := y1.1
      have o2 : OTF p w1 u := ⟨fun z hz => ⟨FR.A f2 (by decide), y1.2 z hz, FR.A f2 (by decide), FR.A f2 (by decide)⟩, fun j _ => ⟨FR.A f2 (by decide), FR.A f2 (by decide), FR.A f2 (by decide), FR.A f2 (by decide)⟩, fun j _ => ⟨FR.A f2 (by decide), FR.A f2 (by decide), FR.A f2 (by decide), FR.A f2 (by decide)⟩, OTF_9 f2 (by decide)⟩
      have fwu : FR [154, 158] [] [94, 110, 160, 162] [93, 141, 161, 163] w u := FR.tr fw (FR.mo f2 (by decide) (by decide) (by decide) (by decide))
      have c2 : F u 154 = c := by rw [FR.F f2 (by decide)]; exact hc
      have m2 : F u 133 = p := by rw [FR.F f2 (by decide)]; exact i1.2.2.1
      have t2 := TRS_fr t1 f2 (by decide) (by decide) (by decide)
      have back2 : ∀ x, RES Fv P PR T C ND CN p mu u x → RES Fv P PR T C ND CN p mu w x := fun x hx => back x (RES.tr (FR.mo f2 (by decide) (by decide) (by decide) (by decide)) o2 (fun z _ => FR.A f2 (by decide)) hx (Nat.le_refl _))
      refine ok_br.mpr ⟨fun z0 => ?_, fun z0 => ?_⟩
      · obtain ⟨b2, y3, y4⟩ : ∃ b2, MEI Fv P PR u p n ow kd (ro (fr - 1) + hg) b2 bxM ∧ rn (fr - 1) + rh (fr - 1) + m ≤ b2 := by
          rcases y2 with ⟨y2, -⟩ | ⟨-, b2, y3, y4⟩
          · exfalso; rw [y2] at z0; exact absurd (of_decide_eq_true z0) (by decide)
          · exact ⟨b2, y3, y4⟩
        rw [I_F' c2]
        refine ok_ck.mpr ⟨inb_at (k := 45) (n := 1400) rfl (by omega) (by omega) (by decide), ok_lt.mpr ?_⟩
        have r45 := A_r u 45 c
        rw [I_tn (x := (c : Int)) (by omega) (by omega), Int.toNat_natCast, I_A (k := 45), wi_e]
        have e45 : A u 45 c = A w1 45 c := FR.A f2 (by decide)
        have f3 : FR [154] [] [] [] u (wi u 154 (A u 45 c)) := FR.wi FR.rf (by decide)
        have e3 : F (wi u 154 (A u 45 c)) 154 = A w1 45 c := by rw [F_wi r45.1 r45.2, if_pos rfl, e45]
        generalize wi u 154 (A u 45 c) = w3 at *
        have e8 : F w3 158 = F v 158 := by rw [FR.F f3 (by decide), FR.F f2 (by decide)]; exact e158
        have f13 : FR [154] [] [94, 160, 162] [93, 141, 161, 163] w1 w3 := FR.tr (FR.mo f2 (by decide) (by decide) (by decide) (by decide)) (FR.mo f3 (by decide) (by decide) (by decide) (by decide))
        have next : ∀ (dn : Nat) (ctn : Nat), 1 ≤ ctn → (∀ c : Nat, F w3 154 = c → CN - c = dn ∧ cT C c + 1 < ctn) → ctn ≤ ctt → dn < d → (F w3 154 = -1 ∨ CLS C w1 CN many hg hb m (rh (fr - 1)) k tp r (F w3 154)) → OK (fun w2 _ => RES Fv P PR T C ND CN p mu w w2) (gg_M_choose N S fu w3 (I 1)) := fun dn ctn h1' h2' h3' h4' h5' => by
          refine ih B dn b2 ctn w3 (FR.tr fwu (FR.mo f3 (by decide) (by decide) (by decide) (by decide))) (OTF.tr (OTF.tr ow1 o2) (OTF_fr f3 (by decide))) (MEI_ints y3 f3 (by decide)) y4 (TRS_at t1 f13 (by decide) (by decide) (by decide) h5' (fun z => by rw [e8]; exact ⟨(u3 z).2.1, (u3 z).2.2.1⟩)) (fun z => by rw [e8]; exact hB z) hB0 h1' h2' ?_ (by omega)
          obtain ⟨e1, e2, e3', e4⟩ := cl1
          unfold CLG
          rw [FR.F f13 (by decide), FR.F f13 (by decide)]
          exact ⟨e1, e2, e3', by omega⟩
        rcases cx with cx | ⟨d2, cx1, cx2, cx3, cx4⟩
        · exact next 0 1 (by omega) (fun c' hc' => by omega) hc1 (by omega) (Or.inl (by rw [e3]; exact cx))
        · refine next (CN - d2) ctt hc1 (fun c' hc' => ?_) (Nat.le_refl _) ?_ (Or.inr (by rw [e3, cx1]; exact cx4))
          · have : c' = d2 := by omega
            subst this
            exact ⟨rfl, by omega⟩
          · rw [← dd]; exact Nat.sub_lt_sub_left hc2 cx2
      · have y3 : MEI Fv P PR u p n ow kd (ro (fr - 1) + hg) (rn (fr - 1) + rh (fr - 1) + cN C c) bxM := by
          rcases y2 with ⟨-, y3⟩ | ⟨y2, -⟩
          · exact y3
          · exact absurd y2 (of_decide_eq_false z0)
        have g2 := PRG_fr g1 f2 (by decide) (by decide)
        have h2 := FRS_fr h1 f2 (by decide) (by decide) (by decide) (by decide) (by decide) (by decide) (by decide) (by decide) (by decide) (by decide)
        have b6 : A u 106 p = ((cb (fr - 1) + k : Nat) : Int) := by rw [FR.A f2 (by decide)]; exact a6
        have b9 : A u 109 p = 0 := by rw [FR.A f2 (by decide)]; exact a9
        have e42 : A u 42 c = A w1 42 c := FR.A f2 (by decide)
        have r42 := A_r u 42 c
        rw [I_F' c2]
        refine ok_ck.mpr ⟨inb_at (k := 42) (n := 1400) rfl (by omega) (by omega) (by decide), ?_⟩
        rw [I_tn (x := (c : Int)) (by omega) (by omega), Int.toNat_natCast, I_A (k := 42), decE r42.1 r42.2 (by omega) (by omega)]
        refine ok_br.mpr ⟨fun _ => ?_, fun z4 => ?_⟩
        · exact ok_bnd.mpr (ok_mono (chosen_ok (N := N) (mu := mu) y3 g2 h2 t2 c2 b6 b9 (by unfold CLG; rw [FR.F f2 (by decide), FR.F f2 (by decide)]; exact cl1') (by omega)) (fun x _ hx => zero x (back2 x hx)))
        · obtain ⟨g, gg1, gg2, gg3, gg4, gg5⟩ := cg.resolve_left (fun z => of_decide_eq_false z4 (by rw [e42]; exact z))
          refine ok_lt.mpr ?_
          rw [lit1q, wi_e]
          have f4 : FR [152] [] [] [] u (wi u 152 1) := FR.wi FR.rf (by decide)
          have e4 : F (wi u 152 1) 152 = 1 := by rw [F_wi (by omega) (by omega), if_pos rfl]
          have i4 := MEI_ints y3 f4 (by decide)
          generalize wi u 152 1 = w4 at *
          rw [I_F' i4.2.2.1]
          refine ok_ck.mpr ⟨inb_at (k := 92) (n := 24) rfl (by omega) (by omega) (by decide), ok_lt.mpr ?_⟩
          rw [I_tn (x := (p : Int)) (by omega) (by omega), Int.toNat_natCast, I_A' i4.2.2.2.2.2.2.2.2.2.1.1, wi_e]
          have f5 : FR [152, 157] [] [] [] u (wi w4 157 ((ro (fr - 1) + hg : Nat) : Int)) := FR.wi (FR.mo f4 (by decide) (by decide) (by decide) (by decide)) (by decide)
          have e5 : F (wi w4 157 ((ro (fr - 1) + hg : Nat) : Int)) 157 = ((ro (fr - 1) + hg : Nat) : Int) := by rw [F_wi rgo.1 rgo.2, if_pos rfl]
          have e52 : F (wi w4 157 ((ro (fr - 1) + hg : Nat) : Int)) 152 = 1 := by rw [F_wi rgo.1 rgo.2, if_neg (by decide)]; exact e4
          generalize wi w4 157 ((ro (fr - 1) + hg : Nat) : Int) = w5 at *
          have i5 := MEI_ints y3 f5 (by decide)
          have c5' : F w5 154 = c := by rw [FR.F f5 (by decide)]; exact c2
          obtain ⟨n1, n2, n3, n4, n5, n6, n7, n8, -⟩ := (g1.2.2.1 g gg2).1
          obtain ⟨c', nc1, nc2, nc3, nc4, nc5, nc6, nc7, nc8⟩ := n8 (by omega)
          obtain rfl : c' = c := by omega
          obtain ⟨c'', cc1, cc2, cc3, cc4, cc5, cc6, cc7, cc8, cc9, cc10⟩ := u2'
          obtain rfl : c'' = c' := by omega
          rw [I_F' c5']
          refine ok_ck.mpr ⟨inb_at (k := 42) (n := 1400) rfl (by omega) (by omega) (by decide), ?_⟩
          rw [I_tn (x := (c'' : Int)) (by omega) (by omega), Int.toNat_natCast, I_A' (show A w5 42 c'' = g by rw [FR.A f5 (by decide), e42]; exact gg1)]
          refine ok_bnd.mpr (ok_mono (at_ok (N := N) (q := g) (by rw [gg3, nc3]; exact i5) (by rw [nc5, nc6, cc8, cc9]; exact FRS_fr h2 f5 (by decide) (by decide) (by decide) (by decide) (by decide) (by decide) (by decide) (by decide) (by decide) (by decide)) gg2 nd (by rw [nc4, cc7]) (by rw [FR.A f5 (by decide), nc5, cc8]; exact b6)) (fun x _ hx => ?_))
          obtain ⟨x1, x2, x3⟩ := hx
          have fx : FR [152, 157] [] [98] [] u x := FR.tr (FR.mo f5 (by decide) (by decide) (by decide) (by decide)) (FR.mo x2 (by decide) (by decide) (by decide) (by decide))
          refine zero x (back2 x ⟨Or.inr (Or.inr ⟨mu - 1, ?_, fr, ro, rn, rh, cb, pc, ct, g, n, ow, kd, bxM, x1, by rw [FR.A fx (by decide)]; exact b9, Or.inr ⟨by rw [FR.F x2 (by decide)]; exact e52, c'', s, many, hg, hb, m, r, ?_, gg4, by rw [FR.F x2 (by decide)]; exact c5', by rw [FR.F x2 (by decide)]; exact e5, ?_⟩⟩), Or.inl (FR.mo fx (by decide) (by decide) (by decide) (by decide)), OTF.tr (OTF_fr f5 (by decide)) x3, fun z _ => FR.A fx (by decide)⟩)
          · obtain ⟨q1, q2, q3, q4⟩ := cl1; omega
          · rw [nc5, nc6, cc8, cc9]; exact TRS_fr t2 fx (by decide) (by decide) (by decide)
          · obtain ⟨q1, q2, q3, q4⟩ := cl1
            unfold CLG
            rw [FR.F fx (by decide), FR.F fx (by decide), FR.F f2 (by decide), FR.F f2 (by decide)]
            refine ⟨q1, q2, q3, ?_⟩
            by_cases es : s = 3
            · have := hB es
              rw [if_pos es, FR.F fx (by decide), FR.F f2 (by decide), e158]
              omega
            · have := hB0 es
              rw [if_neg es]
              omega
end
