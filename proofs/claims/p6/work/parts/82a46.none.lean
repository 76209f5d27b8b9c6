def ER0 (Fv : Int64 → Int64 → Prop) (P : Int64 → Prop) (PR : Nat) (T : TY) (ND p : Nat) (w : MS) (fr : Nat) (ro rn rh cb pc ct : Nat → Nat) (k tp n : Nat) (ow kd : Nat → Nat) (opM bnM bxM rq mu : Nat) : Prop :=
  MEI Fv P PR w p n ow kd opM bnM bxM ∧ FRS w T ND p fr ro rn rh cb pc ct k tp ∧ (0 < k → ro (fr - 1) + tH T tp ≤ opM ∧ rn (fr - 1) + rh (fr - 1) + tM T tp ≤ bnM ∧ ∃ a : Nat, A w 25 tp = a ∧ tR T a < rq) ∧ (ro (fr - 1) ≤ opM ∧ rn (fr - 1) ≤ bnM) ∧ A w 106 p = ((cb (fr - 1) + k : Nat) : Int) ∧ k ≤ 26 ∧ A w 109 p = 0 ∧ F w 152 = 0 ∧ CLK w (sR T pc (fr - 1) + rq) mu
section
variable {Fv : Int64 → Int64 → Prop} {P : Int64 → Prop} {w w2 : MS} {PR N p n n2 opM bnM bxM ND fr k tp mu CN PN SN UN FN rq : Nat} {ow kd ow2 kd2 ro rn rh cb pc ct pM pE : Nat → Nat} {T : TY} {C : CY}
theorem ER0_fr {is ls as js : List Nat} (h : ER0 Fv P PR T ND p w fr ro rn rh cb pc ct k tp n ow kd opM bnM bxM rq mu) (f : FR is ls as js w w2) (i : MEI Fv P PR w2 p n2 ow2 kd2 opM bnM bxM) (hi : ∀ k, k ∈ [152, 164, 165] → k ∉ is) (ha : ∀ k, k ∈ [23, 25, 95, 98, 99, 100, 101, 102, 103, 104, 105, 106, 109] → k ∉ as) : ER0 Fv P PR T ND p w2 fr ro rn rh cb pc ct k tp n2 ow2 kd2 opM bnM bxM rq mu := by
  obtain ⟨-, h2, h3, h4, h5, h6, h7, h8, h9⟩ := h
  refine ⟨i, FRS_fr h2 f (ha _ (by decide)) (ha _ (by decide)) (ha _ (by decide)) (ha _ (by decide)) (ha _ (by decide)) (ha _ (by decide)) (ha _ (by decide)) (ha _ (by decide)) (ha _ (by decide)) (ha _ (by decide)), fun z => ?_, h4, by rw [FR.A f (ha _ (by decide))]; exact h5, h6, by rw [FR.A f (ha _ (by decide))]; exact h7, by rw [FR.F f (hi _ (by decide))]; exact h8, ?_⟩
  · rw [FR.A f (ha _ (by decide))]; exact h3 z
  · unfold CLK; rw [FR.F f (hi _ (by decide)), FR.F f (hi _ (by decide))]; exact h9
theorem up0 {S : SG_M_error} {t : Int64} {kn : Int} (e : ER0 Fv P PR T ND p w fr ro rn rh cb pc ct k tp n ow kd opM bnM bxM rq mu) (hg : PRG w T C pM pE ND CN PN SN UN FN) (hPB : PB P PR) (g : GT n ow kd P t) (hk : 0 ≤ kn ∧ kn ≤ 2) (hN : 60000 ≤ N) : OK (fun w2 _ => STP Fv P PR T ND p mu w w2) (fm_M_goesUp N S w (I kn) t) := by
  obtain ⟨h1, h2, h3, h4, h5, h6, h7, h8, h9⟩ := e
  exact goesUp_ok h1 h2 hg hPB g hk h3 h4 h5 h6 h7 h8 h9 hN
theorem error0 {S S2 : SG_M_error} {a : Int} (hS : S.2.2.2.2.2 = fm_M_goesUp N S2) (e : ER0 Fv P PR T ND p w fr ro rn rh cb pc ct k tp n ow kd opM bnM bxM rq mu) (hg : PRG w T C pM pE ND CN PN SN UN FN) (hPB : PB P PR) (ha : 0 ≤ a ∧ a < 22) (hN : 60000 ≤ N) : OK (fun w2 _ => STP Fv P PR T ND p mu w w2) (fm_M_error N S w (I a)) := by
  unfold fm_M_error fb_M_error_0
  rw [lit1q, term_e, bnd_so, hS]
  exact ok_bnd.mpr (ok_mono (up0 (kn := 0) e hg hPB (Or.inl ⟨nh_mk (by omega), hPB.1 a ha.1 ha.2⟩) (by omega) hN) (fun v _ h => ok_some.mpr h))
theorem STP.pre {u : MS} (f : STF0 u w) (o : OTF p u w) (h : ∀ z, z ≠ p → A w 109 z = A u 109 z) (s : STP Fv P PR T ND p mu w w2) : STP Fv P PR T ND p mu u w2 := by
  obtain ⟨s1, s2, s3, s4⟩ := s
  exact ⟨s1, STG.tr f s2, OTF.tr o s3, fun z hz => by rw [s4 z hz, h z hz]⟩
theorem errorOf0 {S S2 : SG_M_error} {a : Int} {t : Int64} (hS : S.2.2.2.2.2 = fm_M_goesUp N S2) (e : ER0 Fv P PR T ND p w fr ro rn rh cb pc ct k tp n ow kd opM bnM bxM rq mu) (hg : PRG w T C pM pE ND CN PN SN UN FN) (hPB : PB P PR) (g : GT n ow kd P t) (ha : 0 ≤ a ∧ a < 22) (hN : 60000 ≤ N) : OK (fun w2 _ => STP Fv P PR T ND p mu w w2) (fm_M_errorOf N S w (I a) t) := by
  have i := e.1
  have x4 := MEI_p i
  unfold fm_M_errorOf fb_M_errorOf_0 fb_M_errorOf_66
  rw [I_F' e.2.2.2.2.2.2.2.1, lit0q, decE (by omega) (by omega) (by omega) (by omega), decide_eq_true rfl, br_tq, I_F' i.2.2.1, hand_e, bnd_so, show (wl (wi w 140 p) 139 t).1 133 = I p from I_F' (by rw [F_wl, F_wi (by omega) (by omega), if_neg (by decide)]; exact i.2.2.1)]
  have hw := wants_h (m := 3) i g (by omega) hN
  rw [show I ((3 : Nat) : Int) = (3 : Int32) from rfl] at hw
  refine ok_bnd.mpr (ok_mono hw (fun u r h => ?_))
  obtain ⟨n2, ow2, kd2, q1, q2, q3, -, q4⟩ := h
  rw [handNone_e, bnd_so]
  have o3 : OTF p w (wl (wi u 140 (-1)) 139 (mk 6 0)) := OTF_fr q3 (by decide)
  refine ok_br.mpr ⟨fun _ => ?_, fun hr => ?_⟩
  · refine ok_bnd.mpr (ok_mono (noRoom_ok (N := N) q1 hPB) (fun u2 _ h => ok_some.mpr ⟨Or.inl h.1, Or.inr ⟨FR.tr (FR.mo q3 (by decide) (by decide) (by decide) (by decide)) (FR.mo h.2.1 (by decide) (by decide) (by decide) (by decide)), h.1.2⟩, OTF.tr o3 (OTF_fr h.2.1 (by decide)), fun z hz => by rw [h.2.2 z hz, FR.A q3 (by decide)]⟩))
  · have room : n2 + 3 ≤ 500 := by
      rcases q4 with ⟨-, z⟩ | z
      · exact z
      · exact absurd z (by intro z; exact absurd (show r = I 0 by rw [z]) (of_decide_eq_false hr))
    refine ok_bnd.mpr (ok_mono (two_ok (N := N) q1 hPB ha q2 room) (fun u2 r2 h => ?_))
    obtain ⟨s1, ow3, kd3, s2, s3, -⟩ := h
    have e2 := ER0_fr (ER0_fr e q3 q1 (by decide) (by decide)) s1 s2 (by decide) (by decide)
    rw [hS]
    have f2 : FR [136, 138, 140] [139] [89, 90, 135] [88, 91, 93, 107, 134, 137] w u2 := FR.tr q3 (FR.mo s1 (by decide) (by decide) (by decide) (by decide))
    exact ok_bnd.mpr (ok_mono (up0 (kn := 0) e2 (PRG_fr hg f2 (by decide) (by decide)) hPB s3 (by omega) hN) (fun v _ h => ok_some.mpr (STP.pre (FR.mo f2 (by decide) (by decide) (by decide) (by decide)) (OTF_fr f2 (by decide)) (fun z _ => FR.A f2 (by decide)) h)))
theorem nonePart_ok {S S1 S3 : SG_M_error} {s many hg hb m r : Nat} (hS1 : S.1 = fm_M_error N S1) (hS2 : S.2.1 = fm_M_errorOf N S1) (hS3 : S1.2.2.2.2.2 = fm_M_goesUp N S3) (i : MEI Fv P PR w p n ow kd (ro (fr - 1) + hg) (rn (fr - 1) + rh (fr - 1) + m) bxM) (hg' : PRG w T C pM pE ND CN PN SN UN FN) (hPB : PB P PR) (h : FRS w T ND p fr ro rn rh cb pc ct k tp) (ht : TRS w T C ND CN p (ro (fr - 1)) (rn (fr - 1)) (rh (fr - 1)) k tp s many hg hb m r bxM) (h106 : A w 106 p = ((cb (fr - 1) + k : Nat) : Int)) (h109 : A w 109 p = 0) (h152 : F w 152 = 0) (hcl : CLG w (sR T pc (fr - 1) + r) 1 mu) (hN : 60000 ≤ N) :
    OK (fun w2 r2 => (r2 = I 0 ∧ RES Fv P PR T C ND CN p mu w w2) ∨ (r2 = I 1 ∧ s = 3 ∧ FR [154, 158] [] [110] [] w w2 ∧ F w2 158 = F w 158 + 1 ∧ F w 158 + 1 < bxM ∧ F w2 154 = F w 155 ∧ OTF p w w2)) (fm_M_nonePart N S w) := by
  have x4 := MEI_p i
  obtain ⟨⟨s1, s2, s3, s4, s42, s5, s6, s7, s8, s9⟩, u1, u2, u3, u4⟩ := id ht
  have er : ER0 Fv P PR T ND p w fr ro rn rh cb pc ct k tp n ow kd (ro (fr - 1) + hg) (rn (fr - 1) + rh (fr - 1) + m) bxM r mu := by
    refine ⟨i, h, fun z => ?_, ⟨by omega, by omega⟩, h106, s6, h109, h152, ?_⟩
    · obtain ⟨y1, y2, y3⟩ := u4.1 z
      exact ⟨by omega, by omega, y3⟩
    · obtain ⟨e1, e2, e3, e4⟩ := hcl
      exact ⟨e1, e2, e3, by omega⟩
  have done : ∀ x : Option (MS × Unit), OK (fun w2 _ => STP Fv P PR T ND p mu w w2) x → OK (fun w2 r2 => (r2 = I 0 ∧ RES Fv P PR T C ND CN p mu w w2) ∨ (r2 = I 1 ∧ s = 3 ∧ FR [154, 158] [] [110] [] w w2 ∧ F w2 158 = F w 158 + 1 ∧ F w 158 + 1 < bxM ∧ F w2 154 = F w 155 ∧ OTF p w w2)) (bnd x (fun u1 _ => fb_M_nonePart_122 N S () u1)) := fun x hx => by
    unfold fb_M_nonePart_122
    exact ok_bnd.mpr (ok_mono hx (fun v _ hv => ok_ck.mpr ⟨rfl, ok_some.mpr (Or.inl ⟨rfl, RES_stp hv⟩)⟩))
  unfold fm_M_nonePart fb_M_nonePart_0
  rw [I_F' s1, show (3 : Int32) = I 3 from rfl, show (2 : Int32) = I 2 from rfl, lit1q, decE (by omega) (by omega) (by omega) (by omega), decE (by omega) (by omega) (by omega) (by omega), decE (by omega) (by omega) (by omega) (by omega)]
  refine ok_br.mpr ⟨fun z3 => ?_, fun z3 => ok_br.mpr ⟨fun z1 => ?_, fun z1 => ok_br.mpr ⟨fun z2 => ?_, fun z2 => ?_⟩⟩⟩
  · have es : s = 3 := by have := of_decide_eq_true z3; omega
    obtain ⟨v0, v1, v2, q, v3, v4, v5, v6, v7, v8, v9, v10, v11, v12, v13⟩ := u3 es
    have b30 : bxM ≤ 30 := i.2.2.2.2.2.2.2.2.2.2.2.1.2
    obtain ⟨k8, hk8⟩ : ∃ k8 : Nat, F w 158 = k8 := ⟨(F w 158).toNat, by omega⟩
    refine ok_lt.mpr ?_
    rw [I_F' hk8, I_add, wi_e]
    have f4 : FR [158] [] [] [] w (wi w 158 ((k8 : Int) + 1)) := FR.wi FR.rf (by decide)
    have e4 : F (wi w 158 ((k8 : Int) + 1)) 158 = (k8 : Int) + 1 := by rw [F_wi (by omega) (by omega), if_pos rfl]
    generalize wi w 158 ((k8 : Int) + 1) = w4 at *
    have m4 : F w4 133 = p := by rw [FR.F f4 (by decide)]; exact i.2.2.1
    rw [I_F' m4, I_F' e4]
    refine ok_ck.mpr ⟨inb_at (k := 110) (n := 24) rfl (by omega) (by omega) (by decide), ok_lt.mpr ?_⟩
    rw [I_tn (x := (p : Int)) (by omega) (by omega), Int.toNat_natCast, wa_e]
    have f5 : FR [158] [] [110] [] w (wa w4 110 p ((k8 : Int) + 1)) := FR.wa (FR.mo f4 (by decide) (by decide) (by decide) (by decide)) (by decide)
    have e5 : F (wa w4 110 p ((k8 : Int) + 1)) 158 = (k8 : Int) + 1 := e4
    have o5 : OTF p w (wa w4 110 p ((k8 : Int) + 1)) := OTF.tr (OTF_fr f4 (by decide)) (OTF_110 (by omega) (by omega))
    generalize wa w4 110 p ((k8 : Int) + 1) = w5 at *
    have m5 : F w5 133 = p := by rw [FR.F f5 (by decide)]; exact i.2.2.1
    have p108 : A w5 108 p = ((bxM : Nat) : Int) := by rw [FR.A f5 (by decide)]; exact i.2.2.2.2.2.2.2.2.2.2.2.1.1
    rw [I_F' m5, I_F' e5]
    refine ok_ck.mpr ⟨inb_at (k := 108) (n := 24) rfl (by omega) (by omega) (by decide), ?_⟩
    rw [I_tn (x := (p : Int)) (by omega) (by omega), Int.toNat_natCast, I_A' p108, decI (by omega) (by omega) (by omega) (by omega)]
    refine ok_br.mpr ⟨fun y => ?_, fun y => ?_⟩
    · refine ok_ck.mpr ⟨inb_at (k := 108) (n := 24) rfl (by omega) (by omega) (by decide), ok_ck.mpr ⟨inb_at (k := 110) (n := 24) rfl (by omega) (by omega) (by decide), ok_lt.mpr ?_⟩⟩
      rw [wa_e]
      have f6 : FR [158] [] [110] [] w (wa w5 110 p bxM) := FR.wa f5 (by decide)
      have e6 : 0 ≤ A (wa w5 110 p bxM) 110 p := by rw [A_eq (by omega) (by omega), if_pos rfl]; omega
      have o6 : OTF p w (wa w5 110 p bxM) := OTF.tr o5 (OTF_110 (by omega) (by omega))
      generalize wa w5 110 p bxM = w6 at *
      have am := afterMessages_ok (N := N) (mu := mu) (q := q) (r := r) (C := C) (CN := CN) (by rw [v6, v7]; exact MEI_fr i f6 (by decide) (by decide) (by decide) (by decide) (by decide) (by decide) (by decide) (by decide) (by decide) (by decide) (by decide) (by decide) (by decide) (by decide) (by decide) (by decide) (by decide) (by decide)) (PRG_fr hg' f6 (by decide) (by decide)) (by rw [v9, v10]; exact FRS_fr h f6 (by decide) (by decide) (by decide) (by decide) (by decide) (by decide) (by decide) (by decide) (by decide) (by decide)) (by rw [FR.F f6 (by decide)]; exact v3) v4 (by rw [FR.A f6 (by decide)]; exact v5) v11 v8.symm (by rw [FR.A f6 (by decide), v9]; exact h106) (by rw [FR.A f6 (by decide)]; exact h109) (by rw [FR.F f6 (by decide)]; exact h152) (fun z => by rw [FR.A f6 (by decide)] at z; rw [f6.2.2.2 111 (by decide)]; exact v13 z) e6 (by omega) (by unfold CLG; rw [FR.F f6 (by decide), FR.F f6 (by decide)]; exact hcl)
      exact ok_bnd.mpr (ok_mono am (fun u _ hu => ok_ck.mpr ⟨rfl, ok_some.mpr (Or.inl ⟨rfl, RES.tr (FR.mo f6 (by decide) (by decide) (by decide) (by decide)) o6 (fun z _ => FR.A f6 (by decide)) hu (Nat.le_refl _)⟩)⟩))
    · have hy := of_decide_eq_false y
      refine ok_lt.mpr (ok_ck.mpr ⟨rfl, ok_some.mpr (Or.inr ⟨rfl, es, ?_⟩)⟩)
      have r155 := F_r w5 155
      rw [I_F (k := 155), wi_e]
      refine ⟨FR.wi (FR.mo f5 (by decide) (by decide) (by decide) (by decide)) (by decide), ?_, by omega, ?_, OTF.tr o5 (OTF_fr (FR.wi FR.rf (by decide) : FR [154] [] [] [] w5 _) (by decide))⟩
      · rw [F_wi r155.1 r155.2, if_neg (by decide), e5, hk8]
      · rw [F_wi r155.1 r155.2, if_pos rfl, FR.F f5 (by decide)]
  · have es : s = 1 := by have := of_decide_eq_true z1; omega
    rw [es, if_neg (by omega), if_pos rfl] at s3
    obtain ⟨t1, t2⟩ := top_ok (N := N) (k := 0) i (by omega)
    rw [lit0q, show (0 : Int) = ((0 : Nat) : Int) from rfl, t1, bnd_so, hS2]
    exact done _ (errorOf0 (a := 15) hS3 er hg' hPB t2 (by omega) hN)
  · unfold fb_M_nonePart_119
    rw [hS1]
    exact done _ (error0 (a := 16) hS3 er hg' hPB (by omega) hN)
  · unfold fb_M_nonePart_119
    rw [hS1]
    exact done _ (error0 (a := 14) hS3 er hg' hPB (by omega) hN)
end
