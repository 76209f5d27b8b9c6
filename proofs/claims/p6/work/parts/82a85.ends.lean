def PER (Fv : Int64 → Int64 → Prop) (AN : Nat) (T : TY) (C : CY) (pM pE : Nat → Nat) (ND CN PN SN UN FN : Nat) (w : MS) : Prop := PRG w T C pM pE ND CN PN SN UN FN ∧ FVH Fv ∧ ATM w ∧ F w 14 = ((AN : Nat) : Int) ∧ 22 ≤ AN ∧ FVW Fv w UN FN
def ALT (Fv : Int64 → Int64 → Prop) (P : Int64 → Prop) (PR : Nat) (T : TY) (C : CY) (ND CN p mu : Nat) (w : MS) : Prop := ENDD Fv P PR p w ∨ WAI Fv P PR T ND p w ∨ PAU Fv P PR T ND p w ∨ ∃ m, m < mu ∧ STE Fv P PR T C ND CN p m w
def GGR (u w : MS) : Prop := FR [118, 119, 121, 125, 128, 136, 138, 140, 144, 149, 150, 151, 152, 153, 154, 155, 156, 157, 158, 159, 165, 166, 169] [139] [89, 90, 92, 94, 95, 96, 97, 98, 99, 100, 101, 102, 103, 104, 105, 106, 108, 109, 110, 112, 113, 114, 115, 116, 117, 122, 123, 124, 126, 127, 131, 132, 135, 142, 143, 145, 146, 147, 160, 162, 168, 170] [88, 91, 93, 107, 111, 134, 137, 141, 148, 161, 163, 167] u w
section
variable {Fv : Int64 → Int64 → Prop} {P P2 : Int64 → Prop} {u v w w2 x y : MS} {PR PR2 N p n n2 opM bnM bxM bx2 ND fr k tp mu CN PN SN UN FN rq q m h mm AN z j : Nat} {ow kd ow2 kd2 ro rn rh cb pc ct pM pE : Nat → Nat} {T : TY} {C : CY}
theorem PER_fr {is ls as js : List Nat} (r : PER Fv AN T C pM pE ND CN PN SN UN FN w) (f : FR is ls as js w v) (hi : ∀ k, k ∈ [14, 52, 56] → k ∉ is) (ha : ∀ k, k ∈ 12 :: 13 :: KP → k ∉ as) : PER Fv AN T C pM pE ND CN PN SN UN FN v :=
  ⟨PRG_fr r.1 f hi (fun k hk => ha k (List.mem_cons_of_mem _ (List.mem_cons_of_mem _ hk))), r.2.1, ATM_fr r.2.2.1 f (hi _ (by decide)) (ha _ (by decide)), by rw [FR.F f (hi _ (by decide))]; exact r.2.2.2.1, r.2.2.2.2.1, FVW_fr r.2.2.2.2.2 f (ha _ (by decide))⟩
theorem PER_g (r : PER Fv AN T C pM pE ND CN PN SN UN FN w) (g : GGR w v) : PER Fv AN T C pM pE ND CN PN SN UN FN v := PER_fr r g (by decide) (by decide)
theorem PER_pa (r : PER Fv AN T C pM pE ND CN PN SN UN FN w) : ∀ t, PQ AN PR t → PA w t := fun t h h1 => by
  rcases h with h | h | h | ⟨-, h2, h3⟩ | h
  · omega
  · omega
  · omega
  · rw [r.2.2.2.1]; exact ⟨h2, h3⟩
  · omega
theorem PER_pgm (r : PER Fv AN T C pM pE ND CN PN SN UN FN w) (hpr : PR ≤ 24) : PGM Fv (PQ AN PR) PR T C pM pE ND CN PN SN UN FN w := ⟨r.1, PQ_b r.2.2.2.2.1 hpr, r.2.1, r.2.2.1, PER_pa r⟩
theorem ALT_dw (a : ALT Fv P PR T C ND CN p mu w) : DW Fv P PR w := by
  rcases a with a | ⟨_, _, _, _, _, _, _, _, _, _, _, _, a, -⟩ | ⟨_, _, _, _, _, _, _, _, _, _, _, _, a, -⟩ | ⟨_, -, _, _, _, _, _, _, _, _, _, _, _, _, a, -⟩
  · exact a.1
  · exact a.1.1
  · exact a.1.1
  · exact a.1.1
theorem DW_none (d : DW Fv P PR w) (f : FR [149, 150] [] [] [] w v) (h1 : F v 149 = 0) (h2 : F v 150 = 0) : DW Fv P PR v := by
  obtain ⟨⟨d1, d1'⟩, d2, ⟨n4, ow4, kd4, d3a, d3b, d3c⟩, d4, d5, d6⟩ := d
  have h88 : ∀ o, hp v o = hp w o := fun o => by unfold hp; rw [f.2.2.2 88 (by decide)]
  refine ⟨⟨by rw [FR.F f (by decide)]; exact d1, d1'⟩, fun z hz => PRC_same (d2 z hz) (FR.A f (by decide)) (h88 z) (FR.A f (by decide)) (FR.A f (by decide)) (FR.A f (by decide)) (fun i _ => by rw [f.2.2.2 91 (by decide)]) (fun i _ => by rw [f.2.2.2 93 (by decide)]) (fun i _ => by rw [f.2.2.2 107 (by decide)]) (by rw [FR.F f (by decide), d4]; omega), ⟨n4, ow4, kd4, by rw [FR.A f (by decide)]; exact d3a, d3b, by rw [h88]; exact d3c⟩, by rw [FR.F f (by decide)]; exact d4, ⟨0, 0, h1, h2, Nat.le_refl _, Nat.zero_le _, fun i h1 h2 => by omega⟩, fun z hz => by rw [FR.A f (by decide)]; exact d6 z hz⟩
theorem MEI_none (i : MEI Fv P PR w p n ow kd opM bnM bxM) (f : FR [149, 150] [] [] [] w v) (h1 : F v 149 = 0) (h2 : F v 150 = 0) : MEI Fv P PR v p n ow kd opM bnM bxM := by
  obtain ⟨m1, m2, m3, m4, m5, ⟨x1, x2, x3, x4, x5, x6, x7, x8, x9, x10, x11⟩⟩ := i
  have hpz : hp v p = hp w p := by unfold hp; rw [f.2.2.2 88 (by decide)]
  exact ⟨DW_none m1 f h1 h2, m2, by rw [FR.F f (by decide)]; exact m3, by rw [FR.A f (by decide)]; exact m4, by rw [FR.A f (by decide)]; exact m5, rfl, by rw [hpz]; exact x2, x3, x4, by rw [FR.A f (by decide)]; exact x5, by rw [FR.A f (by decide)]; exact x6, by rw [FR.A f (by decide)]; exact x7, fun i hi => by rw [f.2.2.2 91 (by decide)]; exact x8 i hi, fun i hi => by rw [f.2.2.2 93 (by decide)]; exact x9 i hi, fun i hi => by rw [f.2.2.2 107 (by decide)]; exact x10 i hi, fun e => by rw [FR.F f (by decide), m1.2.2.2.1] at e; omega⟩
theorem ATQ_none (a : ATQ Fv P PR T ND p w fr ro rn rh cb pc ct q n ow kd bxM) (f : FR [149, 150] [] [] [] w v) (h1 : F v 149 = 0) (h2 : F v 150 = 0) : ATQ Fv P PR T ND p v fr ro rn rh cb pc ct q n ow kd bxM := by
  obtain ⟨i, h, a3, a4, a5, a6⟩ := a
  exact ⟨MEI_none i f h1 h2, FRS_fr h f (by decide) (by decide) (by decide) (by decide) (by decide) (by decide) (by decide) (by decide) (by decide) (by decide), by rw [FR.A f (by decide)]; exact a3, a4, a5, by rw [FR.A f (by decide)]; exact a6⟩
theorem TRS_none {a1 a2 a3 s many hg hb m r : Nat} (ht : TRS w T C ND CN p a1 a2 a3 k tp s many hg hb m r bxM) (f : FR [149, 150] [] [] [] w v) (h1 : F v 149 = 0) (h2 : F v 150 = 0) : TRS v T C ND CN p a1 a2 a3 k tp s many hg hb m r bxM := by
  obtain ⟨⟨s1, s2⟩, u1, u2, u3, u4⟩ := ht
  have cls : ∀ x, CLS C w CN many hg hb m a3 k tp r x → CLS C v CN many hg hb m a3 k tp r x := fun x ⟨c', d1, d2, d3, d4⟩ => ⟨c', d1, d2, by rw [FR.A f (by decide)]; exact d3, d4⟩
  refine ⟨⟨by rw [FR.F f (by decide)]; exact s1, s2⟩, by rw [FR.F f (by decide)]; exact u1, ?_, fun z => ?_, fun z => ?_, by rw [h1, h2], by rw [FR.F f (by decide)]; exact u4.2.2⟩
  · rw [FR.F f (by decide)]
    rcases u2 with u2 | u2
    · exact Or.inl u2
    · exact Or.inr (cls _ u2)
  · obtain ⟨v0, v1, v2, q, v3, v4, v5, v6⟩ := u3 z
    obtain ⟨v6, v7, v8, v9, v10, v11, v12, v13⟩ := v6
    rw [FR.F f (by decide), FR.F f (by decide)]
    exact ⟨cls _ v0, v1, v2, q, by rw [FR.F f (by decide)]; exact v3, v4, by rw [FR.A f (by decide)]; exact v5, v6, v7, v8, v9, v10, v11, v12, fun y => by rw [FR.A f (by decide)] at y; rw [f.2.2.2 111 (by decide)]; exact v13 y⟩
  · rw [FR.A f (by decide)]; exact u4.1 z
theorem ATQ_ev (a : ATQ Fv P PR T ND p w fr ro rn rh cb pc ct q n ow kd bxM) (f : FR [125, 136, 138, 140, 144, 149, 150] [139] [89, 90, 108, 109, 113, 116, 117, 122, 123, 124, 131, 132, 135, 142, 143, 145, 146, 147] [88, 91, 93, 107, 134, 137, 141, 148] w v) (d : DW Fv P PR v) (h : A v 109 p ≠ 3) : ∃ n2 ow2 kd2 bx2, ATQ Fv P PR T ND p v fr ro rn rh cb pc ct q n2 ow2 kd2 bx2 := by
  obtain ⟨i, hF, a3, a4, a5, a6⟩ := a
  obtain ⟨n2, ow2, kd2, bx2, ix⟩ := MEX_of (opM := ro (fr - 1) + tH T q) (bnM := rn (fr - 1) + rh (fr - 1) + tM T q) d i.2.1 (by rw [FR.F f (by decide)]; exact i.2.2.1) (by rw [FR.A f (by decide)]; exact i.2.2.2.2.2.2.2.2.2.1.1) (by rw [FR.A f (by decide)]; exact i.2.2.2.2.2.2.2.2.2.2.1.1)
  exact ⟨n2, ow2, kd2, bx2, MEX_i ix h, FRS_fr hF f (by decide) (by decide) (by decide) (by decide) (by decide) (by decide) (by decide) (by decide) (by decide) (by decide), by rw [FR.A f (by decide)]; exact a3, a4, a5, by rw [FR.A f (by decide)]; exact a6⟩
theorem ALT_ev (a : ALT Fv P PR T C ND CN p mu w) (hE : F w 149 ≠ F w 150) (f : FR [125, 136, 138, 140, 144, 149, 150] [139] [89, 90, 108, 109, 113, 116, 117, 122, 123, 124, 131, 132, 135, 142, 143, 145, 146, 147] [88, 91, 93, 107, 134, 137, 141, 148] w v) (d : DW Fv P PR v) (h109 : A v 109 p = A w 109 p ∨ A v 109 p = 3) : ALT Fv P PR T C ND CN p mu v := by
  by_cases e3 : A v 109 p = 3
  · exact Or.inl ⟨d, e3⟩
  have e9 : A v 109 p = A w 109 p := by
    rcases h109 with h | h
    · exact h
    · exact absurd h e3
  rcases a with a | ⟨fr, ro, rn, rh, cb, pc, ct, q, n, ow, kd, bx, a, b1, b2, b3, b4, b5⟩ | ⟨fr, ro, rn, rh, cb, pc, ct, q, n, ow, kd, bx, a, b1, b2, b3⟩ | ⟨m, hm, fr, ro, rn, rh, cb, pc, ct, q, n, ow, kd, bx, a, b1, b2⟩
  · exact absurd (e9.trans a.2) e3
  · obtain ⟨n2, ow2, kd2, bx2, a2⟩ := ATQ_ev a f d e3
    exact Or.inr (Or.inl ⟨fr, ro, rn, rh, cb, pc, ct, q, n2, ow2, kd2, bx2, a2, by rw [e9]; exact b1, b2, by rw [FR.A f (by decide)]; exact b3, fun z => by rw [FR.A f (by decide)] at z; rw [f.2.2.2 111 (by decide)]; exact b4 z, by rw [FR.A f (by decide)]; exact b5⟩)
  · obtain ⟨n2, ow2, kd2, bx2, a2⟩ := ATQ_ev a f d e3
    exact Or.inr (Or.inr (Or.inl ⟨fr, ro, rn, rh, cb, pc, ct, q, n2, ow2, kd2, bx2, a2, by rw [e9]; exact b1, b2, by rw [FR.F f (by decide)]; exact b3⟩))
  · obtain ⟨n2, ow2, kd2, bx2, a2⟩ := ATQ_ev a f d e3
    refine Or.inr (Or.inr (Or.inr ⟨m, hm, fr, ro, rn, rh, cb, pc, ct, q, n2, ow2, kd2, bx2, a2, by rw [e9]; exact b1, ?_⟩))
    rcases b2 with ⟨y1, y2, y3⟩ | ⟨y1, c, s, many, hg, hb', mm', r, t1, -⟩
    · refine Or.inl ⟨y1, by rw [FR.F f (by decide)]; exact y2, ?_⟩
      unfold CLG; rw [FR.F f (by decide), FR.F f (by decide)]; exact y3
    · exact absurd t1.2.2.2.2.2.1 hE
theorem ALT_none (a : ALT Fv P PR T C ND CN p mu w) (f : FR [149, 150] [] [] [] w v) (h1 : F v 149 = 0) (h2 : F v 150 = 0) : ALT Fv P PR T C ND CN p mu v := by
  rcases a with a | ⟨fr, ro, rn, rh, cb, pc, ct, q, n, ow, kd, bx, a, b1, b2, b3, b4, b5⟩ | ⟨fr, ro, rn, rh, cb, pc, ct, q, n, ow, kd, bx, a, b1, b2, b3⟩ | ⟨m, hm, fr, ro, rn, rh, cb, pc, ct, q, n, ow, kd, bx, a, b1, b2⟩
  · exact Or.inl ⟨DW_none a.1 f h1 h2, by rw [FR.A f (by decide)]; exact a.2⟩
  · exact Or.inr (Or.inl ⟨fr, ro, rn, rh, cb, pc, ct, q, n, ow, kd, bx, ATQ_none a f h1 h2, by rw [FR.A f (by decide)]; exact b1, b2, by rw [FR.A f (by decide)]; exact b3, fun z => by rw [FR.A f (by decide)] at z; rw [f.2.2.2 111 (by decide)]; exact b4 z, by rw [FR.A f (by decide)]; exact b5⟩)
  · exact Or.inr (Or.inr (Or.inl ⟨fr, ro, rn, rh, cb, pc, ct, q, n, ow, kd, bx, ATQ_none a f h1 h2, by rw [FR.A f (by decide)]; exact b1, b2, by rw [FR.F f (by decide)]; exact b3⟩))
  · refine Or.inr (Or.inr (Or.inr ⟨m, hm, fr, ro, rn, rh, cb, pc, ct, q, n, ow, kd, bx, ATQ_none a f h1 h2, by rw [FR.A f (by decide)]; exact b1, ?_⟩))
    rcases b2 with ⟨y1, y2, y3⟩ | ⟨y1, c, s, many, hg, hb', mm', r, t1, t2, t3, t4, t5⟩
    · refine Or.inl ⟨y1, by rw [FR.F f (by decide)]; exact y2, ?_⟩
      unfold CLG; rw [FR.F f (by decide), FR.F f (by decide)]; exact y3
    · refine Or.inr ⟨by rw [FR.F f (by decide)]; exact y1, c, s, many, hg, hb', mm', r, TRS_none t1 f h1 h2, t2, by rw [FR.F f (by decide)]; exact t3, by rw [FR.F f (by decide)]; exact t4, ?_⟩
      unfold CLG; rw [FR.F f (by decide), FR.F f (by decide), FR.F f (by decide)]; exact t5
theorem ae_step (r : PER Fv AN T C pM pE ND CN PN SN UN FN w) (a : ALT Fv (PQ AN PR) PR T C ND CN p mu w) (hw : WLD w T ND UN FN PR p) (hN : 11000000 ≤ N) : OK (fun v _ => ALT Fv (PQ AN PR) PR T C ND CN p mu v ∧ WLD v T ND UN FN PR p ∧ F v 149 = 0 ∧ F v 150 = 0 ∧ F v 151 = F w 151 ∧ (A v 109 p = A w 109 p ∨ A v 109 p = 3) ∧ GGR w v) (fm_M_allEnds N w) := by
  have d := ALT_dw a
  have hT := PRG_26 r.1
  by_cases hE : F w 149 = F w 150
  · have r9 := F_r w 149
    unfold fm_M_allEnds fb_M_allEnds_0
    rw [I_F (k := 150), I_F (k := 149), hE, decI (by omega) (by omega) (by omega) (by omega), decide_eq_true (Int.le_refl _), br_tq]
    refine ok_lt.mpr (ok_lt.mpr (ok_some.mpr ?_))
    rw [lit0q, wi_e, wi_e]
    have f1 : FR [149, 150] [] [] [] w (wi (wi w 149 0) 150 0) := FR.wi (FR.wi FR.rf (by decide)) (by decide)
    have h1 : F (wi (wi w 149 0) 150 0) 149 = 0 := by rw [F_ne (by decide), F_wi (by omega) (by omega), if_pos rfl]
    have h2 : F (wi (wi w 149 0) 150 0) 150 = 0 := by rw [F_wi (by omega) (by omega), if_pos rfl]
    generalize wi (wi w 149 0) 150 0 = v at *
    exact ⟨ALT_none a f1 h1 h2, WLD_fr hw hT (OTF_fr f1 (by decide)) f1 (by decide) (by decide) (fun z _ => Or.inl (FR.A f1 (by decide))), h1, h2, FR.F f1 (by decide), Or.inl (FR.A f1 (by decide)), FR.mo f1 (by decide) (by decide) (by decide) (by decide)⟩
  · refine ok_mono (allEnds_ok (N := N) (PQ_b r.2.2.2.2.1 d.1.2) PQ_s hN ⟨d, hw.1, hw.2.1⟩ r.2.2.1 (PER_pa r)) (fun v _ hv => ?_)
    obtain ⟨⟨v1, v2, v3⟩, v4, v5, v6, v7, v8⟩ := hv
    refine ⟨ALT_ev a hE v4 v1 (v5 p), WLD_otf hw hT (OTF_fr v4 (by decide)) (fun k hk i => FR.A v4 (by revert hk; unfold KP; simp; omega)) (fun z _ => v5 z) v2 v3 (by rw [FR.F v4 (by decide)]; exact hw.2.2.1) (fun i => by rw [FR.A v4 (by decide)]; exact hw.2.2.2.1 i) (fun i => ?_), v7, v8, FR.F v4 (by decide), v5 p, FR.mo v4 (by decide) (by decide) (by decide) (by decide)⟩
    rcases v6 i with e | e
    · rw [e]; exact hw.2.2.2.2.2.1 i
    · exact e
end
