section
variable {Fv : Int64 → Int64 → Prop} {P : Int64 → Prop} {w w2 : MS} {PR N p n opM bnM bxM ND fr k tp mu CN PN SN UN FN : Nat} {ow kd ro rn rh cb pc ct pM pE : Nat → Nat} {T : TY} {C : CY}
theorem frame0_f (i : MEI Fv P PR w p n ow kd opM bnM bxM) (h1 : A w 95 p = ((fr : Nat) : Int)) (h2 : 1 ≤ fr ∧ fr ≤ 60) : fm_M_frame0 N w = some (w, I ((60 * p + (fr - 1) : Nat) : Int)) := by
  have x4 := MEI_p i
  unfold fm_M_frame0 fb_M_frame0_0
  rw [I_F' i.2.2.1, inb_at (k := 95) (n := 24) rfl (by omega) (by omega) (by decide), ck_t, I_tn (by omega) (by omega), Int.toNat_natCast, I_A' h1, show (60 : Int32) = I 60 from rfl, I_mul, I_add, lit1q, I_sub, show (p : Int) * 60 + (fr : Int) - 1 = ((60 * p + (fr - 1) : Nat) : Int) from by omega]
theorem MEI_ints {is : List Nat} (i : MEI Fv P PR w p n ow kd opM bnM bxM) (f : FR is [] [] [] w w2) (h : ∀ k, k ∈ [133, 118, 140, 149, 150] → k ∉ is) : MEI Fv P PR w2 p n ow kd opM bnM bxM :=
  MEI_fr i f (h _ (by decide)) (h _ (by decide)) (h _ (by decide)) (h _ (by decide)) (h _ (by decide)) (by decide) (by decide) (by decide) (by decide) (by decide) (by decide) (by decide) (by decide) (by decide) (by decide) (by decide) (by decide) (by decide)
theorem ch148 {G : MS → Int32 → Option (MS × Unit)} {many hg hb m r c : Nat} (i : MEI Fv P PR w p n ow kd (ro (fr - 1) + hb) (rn (fr - 1) + rh (fr - 1) + cN C c) bxM) (hg' : PRG w T C pM pE ND CN PN SN UN FN) (h : FRS w T ND p fr ro rn rh cb pc ct k tp) (ht : CLS C w CN many hg hb m (rh (fr - 1)) k tp r ((c : Nat) : Int)) (hc : F w 154 = c) (h106 : A w 106 p = ((cb (fr - 1) + k : Nat) : Int)) (h109 : A w 109 p = 0) (h152 : F w 152 = 0) (hcl : CLG w (sR T pc (fr - 1) + r) 1 mu) : OK (fun w2 _ => RES Fv P PR T C ND CN p mu w w2) (fb_M_chosen_148 N G w) := by
  obtain ⟨c1, c2, c3, c4, c5, c6, -, ⟨b, b1, b2, b3, b4, b5, b6, b7, b8, b9⟩, -⟩ := cls_c (s := 0) hg' ht
  have cn := hg'.1.2.1
  unfold fb_M_chosen_148
  rw [I_F' hc]
  refine ok_ck.mpr ⟨inb_at (k := 43) (n := 1400) rfl (by omega) (by omega) (by decide), ?_⟩
  rw [I_tn (by omega) (by omega), Int.toNat_natCast, I_A' b1]
  refine ok_bnd.mpr (ok_mono (at_ok (N := N) (q := b) (by rw [b3, b4]; exact i) (by rw [b6, b8]; exact h) b2 hg'.1.1 b5.symm (by rw [b6]; exact h106)) (fun v _ hv => ?_))
  obtain ⟨v1, v2, v3⟩ := hv
  refine ok_some.mpr ⟨Or.inr (Or.inr ⟨mu - 1, ?_, fr, ro, rn, rh, cb, pc, ct, b, n, ow, kd, bxM, v1, by rw [FR.A v2 (by decide)]; exact h109, Or.inl ⟨b7, by rw [FR.F v2 (by decide)]; exact h152, ?_⟩⟩), Or.inl (FR.mo v2 (by decide) (by decide) (by decide) (by decide)), v3, fun z _ => FR.A v2 (by decide)⟩
  · obtain ⟨e1, e2, e3, e4⟩ := hcl; omega
  · obtain ⟨e1, e2, e3, e4⟩ := hcl
    unfold CLG
    rw [FR.F v2 (by decide), FR.F v2 (by decide)]
    exact ⟨e1, e2, e3, by omega⟩
theorem ch99 {many hg hb m r c : Nat} {w0 : MS} (hg' : PRG w0 T C pM pE ND CN PN SN UN FN) (h : FRS w0 T ND p fr ro rn rh cb pc ct k tp) (ht : CLS C w0 CN many hg hb m (rh (fr - 1)) k tp r ((c : Nat) : Int)) (hc : F w0 154 = c) (h106 : A w0 106 p = ((cb (fr - 1) + k : Nat) : Int)) (h109 : A w0 109 p = 0) (h152 : F w0 152 = 0) (hcl : CLG w0 (sR T pc (fr - 1) + r) 1 mu) (hN : N ≤ N) : ∀ (fu j : Nat) (v : MS), FR [] [] [] [107] w0 v → MEI Fv P PR v p n ow kd (ro (fr - 1) + hb) (rn (fr - 1) + rh (fr - 1) + cN C c) bxM → (∀ i, i ≤ bxM → GT n ow kd P (v.2.2.2 107 (30 * p + i))) → j ≤ bxM → bxM < 30 → bxM - j < fu → OK (fun w2 _ => RES Fv P PR T C ND CN p mu w0 w2) (gg_M_chosen N fu v (I j)) := by
  intro fu
  induction fu with
  | zero => intro j v _ _ _ _ _ z; exact absurd z (Nat.not_lt_zero _)
  | succ fu ih =>
    intro j v fv iv gt hj hb30 hf
    have x4 := MEI_p iv
    show OK _ (fb_M_chosen_99 N (gg_M_chosen N fu) v (I j))
    unfold fb_M_chosen_99
    rw [I_F' iv.2.2.1]
    refine ok_ck.mpr ⟨inb_at (k := 108) (n := 24) rfl (by omega) (by omega) (by decide), ?_⟩
    rw [I_tn (x := (p : Int)) (by omega) (by omega), Int.toNat_natCast, I_A' iv.2.2.2.2.2.2.2.2.2.2.2.1.1, decI (by omega) (by omega) (by omega) (by omega)]
    refine ok_br.mpr ⟨fun z => ?_, fun z => ?_⟩
    · have := ch148 (N := N) (G := gg_M_chosen N fu) (mu := mu) iv (PRG_fr hg' fv (by decide) (by decide)) (FRS_fr h fv (by decide) (by decide) (by decide) (by decide) (by decide) (by decide) (by decide) (by decide) (by decide) (by decide)) (by obtain ⟨c', d1, d2, d3, d4⟩ := ht; exact ⟨c', d1, d2, by rw [FR.A fv (by decide)]; exact d3, d4⟩) (by rw [FR.F fv (by decide)]; exact hc) (by rw [FR.A fv (by decide)]; exact h106) (by rw [FR.A fv (by decide)]; exact h109) (by rw [FR.F fv (by decide)]; exact h152) (by unfold CLG; rw [FR.F fv (by decide), FR.F fv (by decide)]; exact hcl)
      exact ok_mono this (fun u _ hu => RES.tr (FR.mo fv (by decide) (by decide) (by decide) (by decide)) (OTF_fr fv (by decide)) (fun z _ => FR.A fv (by decide)) hu (Nat.le_refl _))
    · have hj2 : j < bxM := by have := of_decide_eq_false z; omega
      rw [show (30 : Int32) = I 30 from rfl, I_mul, I_add, lit1q, I_add, I_add]
      refine ok_ck.mpr ⟨inb_at (k := 107) (n := 720) rfl (by omega) (by omega) (by decide), ok_ck.mpr ⟨inb_at (k := 107) (n := 720) rfl (by omega) (by omega) (by decide), ok_lt.mpr ?_⟩⟩
      rw [I_tn (by omega) (by omega), I_tn (by omega) (by omega), show ((p : Int) * 30 + (j : Int)).toNat = 30 * p + j from by omega, show ((p : Int) * 30 + (j : Int) + 1).toNat = 30 * p + (j + 1) from by omega, wj_e, show (j : Int) + 1 = ((j + 1 : Nat) : Int) from by omega]
      refine ih (j + 1) _ (FR.wj fv (by decide)) (box_put iv hj2 (gt (j + 1) (by omega))) (fun i hi => ?_) (by omega) hb30 (by omega)
      rw [J_wj, if_pos rfl]
      by_cases e : i = j
      · subst e; rw [if_pos rfl]; exact gt (i + 1) (by omega)
      · rw [if_neg (by omega)]; exact gt i hi
theorem chosen_ok {s many hg hb m r c : Nat} (i : MEI Fv P PR w p n ow kd (ro (fr - 1) + hg) (rn (fr - 1) + rh (fr - 1) + cN C c) bxM) (hg' : PRG w T C pM pE ND CN PN SN UN FN) (h : FRS w T ND p fr ro rn rh cb pc ct k tp) (ht : TRS w T C ND CN p (ro (fr - 1)) (rn (fr - 1)) (rh (fr - 1)) k tp s many hg hb m r bxM) (hc : F w 154 = c) (h106 : A w 106 p = ((cb (fr - 1) + k : Nat) : Int)) (h109 : A w 109 p = 0) (hcl : CLG w (sR T pc (fr - 1) + r) 1 mu) (hN : 60 ≤ N) : OK (fun w2 _ => RES Fv P PR T C ND CN p mu w w2) (fm_M_chosen N w) := by
  have x4 := MEI_p i
  obtain ⟨⟨s1, s2, s3, s4, s42, s5, s6, s7, s8, s9⟩, u1, u2, u3, u4⟩ := ht
  have u2' : CLS C w CN many hg hb m (rh (fr - 1)) k tp r ((c : Nat) : Int) := by
    rcases u2 with u2 | u2
    · omega
    · rw [← hc]; exact u2
  have hf := h.1
  have cc := cls_c (s := 0) hg' u2'
  have cn := hg'.1.2.1
  have hro := (h.2.2.1 (fr - 1) (by omega)).2.2.2.2.1
  unfold fm_M_chosen fb_M_chosen_0
  refine ok_lt.mpr ?_
  rw [show upI w 152 0 = wi w 152 0 from rfl]
  have f0 : FR [152] [] [] [] w (wi w 152 0) := FR.wi FR.rf (by decide)
  have z152 : F (wi w 152 0) 152 = 0 := by rw [F_wi (by omega) (by omega), if_pos rfl]
  have i0 := MEI_ints i f0 (by decide)
  generalize wi w 152 0 = w3 at *
  have g0 := PRG_fr hg' f0 (by decide) (by decide)
  have h0 := FRS_fr h f0 (by decide) (by decide) (by decide) (by decide) (by decide) (by decide) (by decide) (by decide) (by decide) (by decide)
  have t0 : CLS C w3 CN many hg hb m (rh (fr - 1)) k tp r ((c : Nat) : Int) := by obtain ⟨c', d1, d2, d3, d4⟩ := u2'; exact ⟨c', d1, d2, by rw [FR.A f0 (by decide)]; exact d3, d4⟩
  have c0 : F w3 154 = c := by rw [FR.F f0 (by decide)]; exact hc
  have a6 : A w3 106 p = ((cb (fr - 1) + k : Nat) : Int) := by rw [FR.A f0 (by decide)]; exact h106
  have a9 : A w3 109 p = 0 := by rw [FR.A f0 (by decide)]; exact h109
  have cl0 : CLG w3 (sR T pc (fr - 1) + r) 1 mu := by unfold CLG; rw [FR.F f0 (by decide), FR.F f0 (by decide)]; exact hcl
  have back : ∀ w2, RES Fv P PR T C ND CN p mu w3 w2 → RES Fv P PR T C ND CN p mu w w2 := fun w2 hw => RES.tr (FR.mo f0 (by decide) (by decide) (by decide) (by decide)) (OTF_fr f0 (by decide)) (fun z _ => FR.A f0 (by decide)) hw (Nat.le_refl _)
  have p92 : A w3 92 p = ((ro (fr - 1) + hg : Nat) : Int) := i0.2.2.2.2.2.2.2.2.2.1.1
  have p108 : A w3 108 p = ((bxM : Nat) : Int) := i0.2.2.2.2.2.2.2.2.2.2.2.1.1
  have b30 : bxM ≤ 30 := i0.2.2.2.2.2.2.2.2.2.2.2.1.2
  have p41 : A w3 41 c = many := by rw [FR.A f0 (by decide)]; exact cc.2.1
  have less : ∀ d : Nat, hg = hb + d → ∃ v, v = wa w3 92 p ((ro (fr - 1) + hb : Nat) : Int) ∧ FR [] [] [92] [] w3 v ∧ OTF p w3 v ∧ MEI Fv P PR v p n ow kd (ro (fr - 1) + hb) (rn (fr - 1) + rh (fr - 1) + cN C c) bxM := fun d hd => by
    have f5 : FR [] [] [92] [] w3 (wa w3 92 p ((ro (fr - 1) + hb : Nat) : Int)) := FR.wa FR.rf (by decide)
    exact ⟨_, rfl, f5, OTF_at f5 (i0 := p) (fun j hj => by rw [A_eq (by omega) (by omega), if_neg hj]) (Or.inl ⟨by decide, rfl⟩), ops_less i0 (k := ro (fr - 1) + hb) (by omega)⟩
  have fin : ∀ v : MS, FR [] [] [92, 97] [] w3 v → OTF p w3 v → MEI Fv P PR v p n ow kd (ro (fr - 1) + hb) (rn (fr - 1) + rh (fr - 1) + cN C c) bxM → OK (fun w2 _ => RES Fv P PR T C ND CN p mu w w2) (fb_M_chosen_148 N (gg_M_chosen N N) v) := fun v fv ov iv => by
    have := ch148 (N := N) (G := gg_M_chosen N N) (mu := mu) iv (PRG_fr g0 fv (by decide) (by decide)) (FRS_fr h0 fv (by decide) (by decide) (by decide) (by decide) (by decide) (by decide) (by decide) (by decide) (by decide) (by decide)) (by obtain ⟨c', d1, d2, d3, d4⟩ := t0; exact ⟨c', d1, d2, by rw [FR.A fv (by decide)]; exact d3, d4⟩) (by rw [FR.F fv (by decide)]; exact c0) (by rw [FR.A fv (by decide)]; exact a6) (by rw [FR.A fv (by decide)]; exact a9) (by rw [FR.F fv (by decide)]; exact z152) (by unfold CLG; rw [FR.F fv (by decide), FR.F fv (by decide)]; exact cl0)
    exact ok_mono this (fun u _ hu => back u (RES.tr (FR.mo fv (by decide) (by decide) (by decide) (by decide)) ov (fun z _ => FR.A fv (by decide)) hu (Nat.le_refl _)))
  rw [I_F' (show F w3 153 = s by rw [FR.F f0 (by decide)]; exact s1), lit0q, lit1q, show (3 : Int32) = I 3 from rfl, decE (by omega) (by omega) (by omega) (by omega), decE (by omega) (by omega) (by omega) (by omega), decE (by omega) (by omega) (by omega) (by omega), I_F' i0.2.2.1]
  refine ok_br.mpr ⟨fun z0 => ?_, fun z0 => ok_br.mpr ⟨fun z1 => ?_, fun z1 => ok_br.mpr ⟨fun z3 => ?_, fun z3 => ?_⟩⟩⟩
  · have es : s = 0 := by have := of_decide_eq_true z0; omega
    rw [es, if_pos rfl] at s3
    obtain ⟨v, v0, v1, v2, v3⟩ := less many s3
    rw [I_F' c0]
    refine ok_ck.mpr ⟨inb_at (k := 92) (n := 24) rfl (by omega) (by omega) (by decide), ok_ck.mpr ⟨inb_at (k := 41) (n := 1400) rfl (by omega) (by omega) (by decide), ok_ck.mpr ⟨inb_at (k := 92) (n := 24) rfl (by omega) (by omega) (by decide), ok_lt.mpr ?_⟩⟩⟩
    rw [I_tn (x := (p : Int)) (by omega) (by omega), Int.toNat_natCast, I_tn (x := (c : Int)) (by omega) (by omega), Int.toNat_natCast, I_A' p92, I_A' p41, I_sub, show ((ro (fr - 1) + hg : Nat) : Int) - (many : Int) = ((ro (fr - 1) + hb : Nat) : Int) from by omega, wa_e, ← v0, frame0_f (fr := fr) v3 (by rw [FR.A v1 (by decide)]; exact h0.1.2.2) ⟨hf.1, hf.2.1⟩, bnd_so]
    refine ok_ck.mpr ⟨inb_at (k := 97) (n := 1440) rfl (by omega) (by omega) (by decide), ok_lt.mpr ?_⟩
    rw [I_tn (by omega) (by omega), Int.toNat_natCast, I_F' (show F v 154 = c by rw [FR.F v1 (by decide)]; exact c0), wa_e]
    have f9 : FR [] [] [97] [] v (wa v 97 (60 * p + (fr - 1)) c) := FR.wa FR.rf (by decide)
    exact fin _ (FR.tr (FR.mo v1 (by decide) (by decide) (by decide) (by decide)) (FR.mo f9 (by decide) (by decide) (by decide) (by decide))) (OTF.tr v2 (OTF_97 (by omega))) (MEI_fr v3 f9 (by decide) (by decide) (by decide) (by decide) (by decide) (by decide) (by decide) (by decide) (by decide) (by decide) (by decide) (by decide) (by decide) (by decide) (by decide) (by decide) (by decide) (by decide))
  · have es : s = 1 := by have := of_decide_eq_true z1; omega
    rw [es, if_neg (by omega), if_pos rfl] at s3
    obtain ⟨v, v0, v1, v2, v3⟩ := less 1 s3
    refine ok_ck.mpr ⟨inb_at (k := 92) (n := 24) rfl (by omega) (by omega) (by decide), ok_ck.mpr ⟨inb_at (k := 92) (n := 24) rfl (by omega) (by omega) (by decide), ok_lt.mpr ?_⟩⟩
    rw [I_tn (x := (p : Int)) (by omega) (by omega), Int.toNat_natCast, I_A' p92, I_sub, show ((ro (fr - 1) + hg : Nat) : Int) - 1 = ((ro (fr - 1) + hb : Nat) : Int) from by omega, wa_e, ← v0]
    exact fin v (FR.mo v1 (by decide) (by decide) (by decide) (by decide)) v2 v3
  · have es : s = 3 := by have := of_decide_eq_true z3; omega
    rw [es, if_neg (by omega), if_neg (by omega)] at s3
    obtain rfl : hg = hb := by omega
    obtain ⟨-, v1, v2, -⟩ := u3 es
    obtain ⟨k8, hk8⟩ : ∃ k8 : Nat, F w 158 = k8 := ⟨(F w 158).toNat, by omega⟩
    refine ok_ck.mpr ⟨inb_at (k := 108) (n := 24) rfl (by omega) (by omega) (by decide), ok_ck.mpr ⟨inb_at (k := 108) (n := 24) rfl (by omega) (by omega) (by decide), ok_lt.mpr ?_⟩⟩
    rw [I_tn (x := (p : Int)) (by omega) (by omega), Int.toNat_natCast, I_A' p108, I_sub, show (bxM : Int) - 1 = ((bxM - 1 : Nat) : Int) from by omega, wa_e]
    have f8 : FR [] [] [108] [] w3 (wa w3 108 p ((bxM - 1 : Nat) : Int)) := FR.wa FR.rf (by decide)
    have i8 := box_less i0 (k := bxM - 1) (by omega)
    have gt8 : ∀ i, i ≤ bxM - 1 → GT n ow kd P ((wa w3 108 p ((bxM - 1 : Nat) : Int)).2.2.2 107 (30 * p + i)) := fun j hj => i0.2.2.2.2.2.2.2.2.2.2.2.2.2.2.1 j (by omega)
    generalize wa w3 108 p ((bxM - 1 : Nat) : Int) = v at *
    rw [I_F' (show F v 158 = k8 by rw [FR.F f8 (by decide), FR.F f0 (by decide)]; exact hk8)]
    have := ch99 (N := N) (mu := mu) (w0 := v) (PRG_fr g0 f8 (by decide) (by decide)) (FRS_fr h0 f8 (by decide) (by decide) (by decide) (by decide) (by decide) (by decide) (by decide) (by decide) (by decide) (by decide)) (by obtain ⟨c', d1, d2, d3, d4⟩ := t0; exact ⟨c', d1, d2, by rw [FR.A f8 (by decide)]; exact d3, d4⟩) (by rw [FR.F f8 (by decide)]; exact c0) (by rw [FR.A f8 (by decide)]; exact a6) (by rw [FR.A f8 (by decide)]; exact a9) (by rw [FR.F f8 (by decide)]; exact z152) (by unfold CLG; rw [FR.F f8 (by decide), FR.F f8 (by decide)]; exact cl0) (Nat.le_refl _) N k8 v FR.rf i8 gt8 (by omega) (by omega) (by omega)
    exact ok_mono this (fun u _ hu => back u (RES.tr (FR.mo f8 (by decide) (by decide) (by decide) (by decide)) (OTF_fr f8 (by decide)) (fun z _ => FR.A f8 (by decide)) hu (Nat.le_refl _)))
  · have e0 := of_decide_eq_false z0
    have e1 := of_decide_eq_false z1
    rw [if_neg (by omega), if_neg (by omega)] at s3
    exact fin w3 FR.rf (OTF_fr (FR.rf : FR [] [] [] [] w3 w3) (by decide)) (by rw [show hb = hg from by omega]; exact i0)
end
