section
variable {Fv : Int64 → Int64 → Prop} {P : Int64 → Prop} {w w2 : MS} {PR N p n opM bnM bxM ND fr k tp mu CN PN SN UN FN : Nat} {ow kd ro rn rh cb pc ct pM pE : Nat → Nat} {T : TY} {C : CY}
theorem cE_109 (h : ∀ z, z ≠ p → A w2 109 z = A w 109 z) (h1 : A w 109 p ≠ 3) (h2 : A w2 109 p ≠ 3) : ∀ k, cE w2 k = cE w k := by
  intro k
  induction k with
  | zero => rfl
  | succ k ih =>
    show cE w2 k + (if A w2 109 k = 3 then 1 else 0) = cE w k + (if A w 109 k = 3 then 1 else 0)
    rw [ih]
    by_cases e : k = p
    · subst e; rw [if_neg h1, if_neg h2]
    · rw [h k e]
theorem DW_109 (d : DW Fv P PR w) (f : FR [] [] [109] [] w w2) (h : ∀ z, z ≠ p → A w2 109 z = A w 109 z) (h1 : A w 109 p ≠ 3) (h2 : A w2 109 p = 0 ∨ A w2 109 p = 1) : DW Fv P PR w2 := by
  obtain ⟨⟨d1, d1'⟩, d2, ⟨n4, ow4, kd4, d3a, d3b, d3c⟩, d4, ⟨eF, eM, e1, e2, e3, e4, e5⟩, d6⟩ := d
  have hpz : ∀ x, hp w2 x = hp w x := fun x => by unfold hp; rw [f.2.2.2 88 (by decide)]
  refine ⟨⟨by rw [FR.F f (by decide)]; exact d1, d1'⟩, fun p hp1 => PRC_same (d2 p hp1) (FR.A f (by decide)) (hpz p) (FR.A f (by decide)) (FR.A f (by decide)) (FR.A f (by decide)) (fun i _ => by rw [f.2.2.2 91 (by decide)]) (fun i _ => by rw [f.2.2.2 93 (by decide)]) (fun i _ => by rw [f.2.2.2 107 (by decide)]) (by rw [FR.F f (by decide), d4]; omega), ⟨n4, ow4, kd4, by rw [FR.A f (by decide)]; exact d3a, d3b, by rw [hpz]; exact d3c⟩, by rw [FR.F f (by decide)]; exact d4, ⟨eF, eM, by rw [FR.F f (by decide)]; exact e1, by rw [FR.F f (by decide)]; exact e2, e3, by rw [cE_109 h h1 (by omega)]; exact e4, fun i h3 h4 => ?_⟩, fun z hz => ?_⟩
  · obtain ⟨q1, q2, q3, q4⟩ := e5 i h3 h4
    rw [FR.A f (by decide), FR.A f (by decide), FR.A f (by decide), f.2.2.2 148 (by decide)]
    refine ⟨q1, q2, q3, ?_⟩
    rcases q4 with q4 | ⟨q4, q5, n5, ow5, kd5, q6, q7, q8, q9⟩
    · exact Or.inl q4
    · refine Or.inr ⟨q4, ?_, n5, ow5, kd5, by rw [FR.A f (by decide)]; exact q6, q7, by rw [hpz]; exact q8, q9⟩
      rcases q5 with q5 | ⟨q5, q5'⟩
      · exact Or.inl q5
      · refine Or.inr ⟨q5, ?_⟩
        rw [h _ (fun e => h1 (by rw [← e]; exact q5'))]; exact q5'
  · by_cases e : z = p
    · rw [e]; omega
    · rw [h z e]; exact d6 z hz
theorem MEI_109 {x : Int} (m : MEI Fv P PR w p n ow kd opM bnM bxM) (hx : x = 0 ∨ x = 1) : MEI Fv P PR (wa w 109 p x) p n ow kd opM bnM bxM := by
  obtain ⟨m1, m2, m3, m4, m5, ⟨x1, x2, x3, x4, x5, x6, x7, x8, x9, x10, x11⟩⟩ := m
  have f : FR [] [] [109] [] w (wa w 109 p x) := FR.wa FR.rf (by decide)
  have e : ∀ z, A (wa w 109 p x) 109 z = if z = p then x else A w 109 z := fun z => A_eq (by omega) (by omega)
  exact ⟨DW_109 (p := p) m1 f (fun z hz => by rw [e, if_neg hz]) m4 (by rw [e, if_pos rfl]; omega), m2, m3, by rw [e, if_pos rfl]; omega, by rw [FR.A f (by decide)]; exact m5, ⟨rfl, x2, x3, x4, by rw [FR.A f (by decide)]; exact x5, by rw [FR.A f (by decide)]; exact x6, by rw [FR.A f (by decide)]; exact x7, x8, x9, x10, x11⟩⟩
theorem lg_neg {x : Int64} (h : ¬ lg_cmp x 0 < 0) : x ≠ -1 := fun e => by subst e; exact h (by decide)
theorem afterMessages_ok {r q : Nat} (i : MEI Fv P PR w p n ow kd (ro (fr - 1) + tH T q) (rn (fr - 1) + rh (fr - 1) + tM T q) bxM) (hg' : PRG w T C pM pE ND CN PN SN UN FN) (h : FRS w T ND p fr ro rn rh cb pc ct (tK T q) (tC T q)) (h159 : F w 159 = q) (hq : q < ND) (h23 : A w 23 q = 27) (hG : tG T q = 0) (hl : rh (fr - 1) = tL T q) (h106 : A w 106 p = ((cb (fr - 1) + tK T q : Nat) : Int)) (h109 : A w 109 p = 0) (h152 : F w 152 = 0) (h111 : A w 31 q = -1 → w.2.2.2 111 p = -1) (h110 : 0 ≤ A w 110 p) (hr : tR T q ≤ r + 1) (hcl : CLG w (sR T pc (fr - 1) + r) 1 mu) : OK (fun w2 _ => RES Fv P PR T C ND CN p mu w w2) (fm_M_afterMessages N w) := by
  have x4 := MEI_p i
  have nd := hg'.1.1
  obtain ⟨-, ha, -⟩ := hg'.2.2.1 q hq
  obtain ⟨-, -, -, -, -, -, -, -, -, -, -, h27, -⟩ := ha
  obtain ⟨-, -, -, h31⟩ := h27 h23
  have wait : OK (fun w2 _ => RES Fv P PR T C ND CN p mu w w2) (fb_M_afterMessages_53 N () w) := by
    unfold fb_M_afterMessages_53 fb_M_afterMessages_71
    rw [I_F' i.2.2.1]
    refine ok_ck.mpr ⟨inb_at (k := 109) (n := 24) rfl (by omega) (by omega) (by decide), ok_lt.mpr ?_⟩
    rw [I_tn (x := (p : Int)) (by omega) (by omega), Int.toNat_natCast, lit1q, wa_e]
    have f1 : FR [] [] [109] [] w (wa w 109 p 1) := FR.wa FR.rf (by decide)
    have e1 : ∀ z, A (wa w 109 p 1) 109 z = if z = p then 1 else A w 109 z := fun z => A_eq (by omega) (by omega)
    have i1 := MEI_109 (x := 1) i (Or.inr rfl)
    generalize wa w 109 p 1 = v at *
    rw [I_F' (show F v 159 = q by rw [FR.F f1 (by decide)]; exact h159)]
    refine ok_bnd.mpr (ok_mono (at_ok (N := N) (q := q) i1 (FRS_fr h f1 (by decide) (by decide) (by decide) (by decide) (by decide) (by decide) (by decide) (by decide) (by decide) (by decide)) hq nd hl (by rw [FR.A f1 (by decide)]; exact h106)) (fun u _ hu => ?_))
    obtain ⟨u1, u2, u3⟩ := hu
    have fu : FR [] [] [98, 109] [] w u := FR.tr (FR.mo f1 (by decide) (by decide) (by decide) (by decide)) (FR.mo u2 (by decide) (by decide) (by decide) (by decide))
    refine ok_some.mpr ⟨Or.inr (Or.inl ⟨fr, ro, rn, rh, cb, pc, ct, q, n, ow, kd, bxM, u1, by rw [FR.A u2 (by decide), e1, if_pos rfl], hG, by rw [FR.A fu (by decide)]; exact h23, fun z => ?_, by rw [FR.A fu (by decide)]; exact h110⟩), Or.inl (FR.mo fu (by decide) (by decide) (by decide) (by decide)), OTF.tr (OTF_fr f1 (by decide)) u3, fun z hz => by rw [FR.A u2 (by decide), e1, if_neg hz]⟩
    rw [FR.A fu (by decide)] at z
    rw [fu.2.2.2 111 (by decide)]
    exact h111 z
  unfold fm_M_afterMessages fb_M_afterMessages_0 fb_M_afterMessages_71
  rw [I_F' i.2.2.1, I_tn (x := (p : Int)) (by omega) (by omega), Int.toNat_natCast]
  refine ok_ck.mpr ⟨inb_at (k := 111) (n := 24) rfl (by omega) (by omega) (by decide), ok_br.mpr ⟨fun _ => wait, fun z => ok_ck.mpr ⟨inb_at (k := 111) (n := 24) rfl (by omega) (by omega) (by decide), ok_br.mpr ⟨fun _ => wait, fun _ => ?_⟩⟩⟩⟩
  have n31 : A w 31 q ≠ -1 := fun e => lg_neg (of_decide_eq_false z) (h111 e)
  obtain ⟨g, g1, g2, b, g3, g4, g5⟩ := h31.resolve_left n31
  obtain ⟨n1, n2, n3, n4, n5, n6, n7, n8, n9⟩ := g5
  rw [I_F' h159]
  refine ok_ck.mpr ⟨inb_at (k := 31) (n := 16000) rfl (by omega) (by omega) (by decide), ?_⟩
  rw [I_tn (x := (q : Int)) (by omega) (by omega), Int.toNat_natCast, I_A' g1]
  refine ok_ck.mpr ⟨inb_at (k := 26) (n := 16000) rfl (by omega) (by omega) (by decide), ?_⟩
  rw [I_tn (x := (g : Int)) (by omega) (by omega), Int.toNat_natCast, I_A' g3]
  refine ok_bnd.mpr (ok_mono (at_ok (N := N) (q := b) (by rw [n1, n2]; exact i) (by rw [n4, n8]; exact h) g4 nd (by rw [n3]; exact hl) (by rw [n4]; exact h106)) (fun u _ hu => ?_))
  obtain ⟨u1, u2, u3⟩ := hu
  refine ok_some.mpr ⟨Or.inr (Or.inr ⟨mu - 1, ?_, fr, ro, rn, rh, cb, pc, ct, b, n, ow, kd, bxM, u1, by rw [FR.A u2 (by decide)]; exact h109, Or.inl ⟨by rw [n5]; exact hG, by rw [FR.F u2 (by decide)]; exact h152, ?_⟩⟩), Or.inl (FR.mo u2 (by decide) (by decide) (by decide) (by decide)), u3, fun z _ => FR.A u2 (by decide)⟩
  · obtain ⟨e1, e2, e3, e4⟩ := hcl; omega
  · obtain ⟨e1, e2, e3, e4⟩ := hcl
    unfold CLG
    rw [FR.F u2 (by decide), FR.F u2 (by decide)]
    exact ⟨e1, e2, e3, by omega⟩
end
