section
variable {Fv : Int64 → Int64 → Prop} {P : Int64 → Prop} {u v w w2 : MS} {PR N p n n2 opM bnM bxM bx2 ND fr k tp mu CN PN SN UN FN rq q m h mm : Nat} {ow kd ow2 kd2 ro rn rh cb pc ct pM pE : Nat → Nat} {T : TY} {C : CY}
theorem GT_int {x : Int32} (hPB : PB P PR) : GT n ow kd P (mk 0 x.toInt) := Or.inl ⟨nh_mk (by omega), hPB.2.2.2.1 _ (ti_rng x).1 (ti_rng x).2⟩
theorem term0_e {x : Int32} : fm_M_term N u 0 x = some (u, mk 0 x.toInt) := by
  have := term_e (N := N) (u := u) (s := 0) (v := x.toInt)
  rw [← I_of x] at this
  exact this
theorem i8 (e : ERX Fv P PR T C ND CN p u fr ro rn rh cb pc ct q n ow kd (ro (fr - 1) + tH T q) (rn (fr - 1) + rh (fr - 1) + tM T q) bxM mu) (hp : PGM Fv P PR T C pM pE ND CN PN SN UN FN u) (hq : tB T q + 1 ≤ tH T q) (hm : m < ND) (hx : NX T q m (tH T q) (tM T q)) (h98 : A u 98 (60 * p + (fr - 1)) = ((m : Nat) : Int)) (hN : 60000 ≤ N) : OK (fun v _ => RES Fv P PR T C ND CN p mu u v) (bnd (fm_M_take N u) (fun u22 r22 => bnd (fm_M_sortOf N u22 r22) (fun u23 r23 => br (decide (r23 = 0)) (bnd (fm_M_valueOf N u23 r22) (fun u24 r24 => bnd (fm_M_valueOf N u24 r22) (fun u25 r25 => br (decide (r24 = (-r25))) (bnd (fm_M_valueOf N u25 r22) (fun u26 r26 => br (decide (r26 = 0)) (fb_M_otherRun_171 N () u26 (r22)) (fb_M_otherRun_162 N () u26))) (fb_M_otherRun_171 N () u25 (r22))))) (fb_M_otherRun_162 N () u23)))) := by
  have e' := e
  rw [show ro (fr - 1) + tH T q = ro (fr - 1) + (tH T q - 1) + 1 from by omega] at e'
  have hf := e.2.1.1
  have hro := (e.2.1.2.2.1 (fr - 1) (by omega)).2.2.2.2.1
  have hH := (hp.1.2.2.1 q e.2.2.1).1.1
  refine ok_bnd.mpr (ok_mono (takeE (N := N) e' (by omega)) (fun v r hv => ?_))
  obtain ⟨v1, v2, v3, v4⟩ := hv
  have back : ∀ x, RES Fv P PR T C ND CN p mu v x → RES Fv P PR T C ND CN p mu u x := fun x hx => RES.tr (FR.mo v3 (by decide) (by decide) (by decide) (by decide)) v4 (fun z _ => FR.A v3 (by decide)) hx (Nat.le_refl _)
  have no : OK (fun v _ => RES Fv P PR T C ND CN p mu u v) (fb_M_otherRun_162 N () v) := by
    unfold fb_M_otherRun_162 fb_M_otherRun_184 fb_M_otherRun_328
    exact ok_bnd.mpr (ok_mono (err_ok (N := N) (a := 12) v1 (PGM_fr hp v3 (by decide) (by decide)) (by omega) hN) (fun y _ hy => ok_some.mpr (back y hy)))
  have yes : OK (fun v _ => RES Fv P PR T C ND CN p mu u v) (fb_M_otherRun_171 N () v r) := by
    unfold fb_M_otherRun_171 fb_M_otherRun_184 fb_M_otherRun_328
    rw [valueOf_e, bnd_so, term0_e, bnd_so]
    exact ok_bnd.mpr (ok_mono (putR (N := N) v1 hm hx (by rw [FR.A v3 (by decide)]; exact h98) (by omega) rfl (GT_int hp.2.1) (by omega)) (fun y _ hy => ok_some.mpr (back y hy)))
  rw [sortOf_e, bnd_so, valueOf_e, bnd_so, valueOf_e, bnd_so, valueOf_e, bnd_so]
  exact ok_br.mpr ⟨fun _ => ok_br.mpr ⟨fun _ => ok_br.mpr ⟨fun _ => yes, fun _ => no⟩, fun _ => yes⟩, fun _ => no⟩
theorem i9 {a : Nat} {v2 : Int32} (e : ERX Fv P PR T C ND CN p u fr ro rn rh cb pc ct q n ow kd (ro (fr - 1) + tH T q) (rn (fr - 1) + rh (fr - 1) + tM T q) bxM mu) (hp : PGM Fv P PR T C pM pE ND CN PN SN UN FN u) (hq : tB T q + 1 ≤ tH T q) (hm : m < ND) (hx : NX T q m (tH T q - 1) (tM T q)) (h98 : A u 98 (60 * p + (fr - 1)) = ((m : Nat) : Int)) (ha : A u 25 q = a) (haN : a < ND) (hxa : NX T q a (tH T q) (tM T q)) (hN : 60000 ≤ N) : OK (fun v _ => RES Fv P PR T C ND CN p mu u v) (fb_M_otherRun_12 N () u (I q) v2) := by
  have e' := e
  rw [show ro (fr - 1) + tH T q = ro (fr - 1) + (tH T q - 1) + 1 from by omega] at e'
  have hf := e.2.1.1
  have q1 := e.2.2.1
  have nd := hp.1.1.1
  unfold fb_M_otherRun_12 fb_M_otherRun_71 fb_M_otherRun_328
  obtain ⟨t1, t2⟩ := top_ok (N := N) (k := 0) e.1 (by omega)
  rw [lit0q, show (0 : Int) = ((0 : Nat) : Int) from rfl, t1, bnd_so]
  have alt : ∀ (t : Int64) (b : Int32) (y : Int64), fm_M_truth N u b = some (u, y) → OK (fun v _ => RES Fv P PR T C ND CN p mu u v) (fb_M_otherRun_46 N () u (I q) t b) := fun t b y hy => by
    unfold fb_M_otherRun_46 fb_M_otherRun_71 fb_M_otherRun_328
    rw [hy, bnd_so]
    refine ok_br.mpr ⟨fun _ => ok_ck.mpr ⟨inb_at (k := 25) (n := 16000) rfl (by omega) (by omega) (by decide), ?_⟩, fun _ => ?_⟩
    · rw [I_tn (by omega) (by omega), Int.toNat_natCast, I_A' ha]
      exact ok_bnd.mpr (ok_mono (gotoR (N := N) e haN nd hxa rfl rfl) (fun y _ hy => ok_some.mpr hy))
    · refine ok_bnd.mpr (ok_mono (takeE (N := N) e' (by omega)) (fun v r hv => ok_some.mpr ?_))
      obtain ⟨v1, v2, v3, v4⟩ := hv
      exact nxtR e hm hx v3 (by decide) (by decide) (by decide) h98 v1.1 (FR.mo v3 (by decide) (by decide) (by decide) (by decide)) v4
  refine ok_bnd.mpr (ok_mono isTruth_ok (fun x r2 hx' => ?_))
  obtain ⟨x1, x2⟩ := hx'
  subst x1
  refine ok_br.mpr ⟨fun _ => ?_, fun _ => ok_br.mpr ⟨fun _ => alt _ _ _ truth1, fun _ => alt _ _ _ truth0⟩⟩
  exact ok_bnd.mpr (ok_mono (err_ok (N := N) (a := 11) e hp (by omega) hN) (fun y _ hy => ok_some.mpr hy))
theorem i16 {m2 : Nat} (e : ERX Fv P PR T C ND CN p u fr ro rn rh cb pc ct q n ow kd (ro (fr - 1) + tH T q) (rn (fr - 1) + rh (fr - 1) + tM T q) bxM mu) (hp : PGM Fv P PR T C pM pE ND CN PN SN UN FN u) (hq : tB T q + 1 ≤ tH T q) (hm : m < ND) (hpat : PAT u pM pE PN SN (tL T q) (tM T q) m2 (A u 25 q)) (hx : NX T q m (tH T q) m2) (h98 : A u 98 (60 * p + (fr - 1)) = ((m : Nat) : Int)) (hN : 60000 ≤ N) : OK (fun v _ => RES Fv P PR T C ND CN p mu u v) (ck (inb (u.1 133) (ln 94)) (lt (u.2.2.1 94 (u.1 133).toNatClampNeg) (fun y13 => ck (inb (I q) (ln 25)) (bnd (fm_M_top N u 0) (fun u14 r14 => bnd (fm_M_fits N u14 (u.2.2.1 25 (I q).toNatClampNeg) r14) (fun u15 r15 => br (decide (r15 = 0)) (ck (inb (u15.1 133) (ln 94)) (lt (upA u15 94 (upd (u15.2.2.1 94) (u15.1 133).toNatClampNeg y13)) (fun w16 => bnd (fm_M_top N w16 0) (fun u17 r17 => bnd (fr_M_errorOf N u17 13 r17) (fun u18 _ => fb_M_one_400 N () u18))))) (fb_M_one_400 N () u15))))))) := by
  have i := e.1
  have x4 := MEI_p i
  have hf := e.2.1.1
  have q1 := e.2.2.1
  have nd := hp.1.1.1
  have hl := e.2.2.2.1
  have hro := (e.2.1.2.2.1 (fr - 1) (by omega))
  have hMq := (hp.1.2.2.1 q q1).1.2.1
  obtain ⟨qq, pM, pE, p1, p2, p3, p4, p5, p6, p7⟩ := hpat
  have hM2 : m2 + tL T q ≤ 40 := by have := (hp.1.2.2.1 m hm).1.2.1; obtain ⟨-, z2, z3, -⟩ := hx; omega
  have hb94 : A u 94 p = ((rn (fr - 1) + rh (fr - 1) + tM T q : Nat) : Int) := i.2.2.2.2.2.2.2.2.2.2.1.1
  unfold fb_M_one_400 fb_M_one_468
  rw [I_F' i.2.2.1]
  refine ok_ck.mpr ⟨inb_at (k := 94) (n := 24) rfl (by omega) (by omega) (by decide), ok_lt.mpr (ok_ck.mpr ⟨inb_at (k := 25) (n := 16000) rfl (by omega) (by omega) (by decide), ?_⟩)⟩
  obtain ⟨t1, t2⟩ := top_ok (N := N) (k := 0) i (by omega)
  rw [lit0q, show (0 : Int) = ((0 : Nat) : Int) from rfl, t1, bnd_so, I_tn (x := (q : Int)) (by omega) (by omega), Int.toNat_natCast, I_tn (x := (p : Int)) (by omega) (by omega), Int.toNat_natCast, I_A' p1, I_A' hb94]
  refine ok_bnd.mpr (ok_mono (fits_ok (N := N) (q := qq) (e := pE qq) (pM := pM) (pE := pE) (PN := PN) (SN := SN) (fr := fr) (rn := rn (fr - 1)) (rh := rh (fr - 1)) i hp.1.1.2.2.1 p3 rfl p2 (by rw [hl]; exact p7) hp.2.2.1 hp.2.2.2.1 hp.2.2.2.2 hp.1.2.1 ⟨hf.2.2, hf.1, hf.2.1, hro.2.1, hro.2.2.1⟩ (fun k h1 h2 => by have := p6 k h1 h2; omega) (by rw [p4]) t2 (by omega)) (fun v r hv => ?_))
  obtain ⟨v1, v2⟩ := hv
  have f1 := v1.1
  have o1 : OTF p u v := ⟨fun z hz => ⟨FR.A f1 (by decide), v1.2 z hz, FR.A f1 (by decide), FR.A f1 (by decide)⟩, fun j _ => ⟨FR.A f1 (by decide), FR.A f1 (by decide), FR.A f1 (by decide), FR.A f1 (by decide)⟩, fun j _ => ⟨FR.A f1 (by decide), FR.A f1 (by decide), FR.A f1 (by decide), FR.A f1 (by decide)⟩, OTF_9 f1 (by decide)⟩
  refine ok_br.mpr ⟨fun z0 => ?_, fun z0 => ?_⟩
  · obtain ⟨b2, y3, c2, y4, y5, y6⟩ : ∃ b2, MEI Fv P PR v p n ow kd (ro (fr - 1) + tH T q) b2 bxM ∧ ∃ c2, qq ≤ c2 ∧ c2 ≤ pE qq ∧ b2 = rn (fr - 1) + rh (fr - 1) + pM c2 := by
      rcases v2 with ⟨y2, -⟩ | ⟨-, y3⟩
      · exfalso; rw [y2] at z0; exact absurd (of_decide_eq_true z0) (by decide)
      · exact y3
    have mono := pM_mono p7 (c2 - qq) (by omega)
    rw [show qq + (c2 - qq) = c2 from by omega] at mono
    rw [I_F' y3.2.2.1]
    refine ok_ck.mpr ⟨inb_at (k := 94) (n := 24) rfl (by omega) (by omega) (by decide), ok_lt.mpr ?_⟩
    rw [I_tn (x := (p : Int)) (by omega) (by omega), Int.toNat_natCast, wa_e]
    have f2 : FR [] [] [94] [] v (wa v 94 p ((rn (fr - 1) + rh (fr - 1) + tM T q : Nat) : Int)) := FR.wa FR.rf (by decide)
    have o2 : OTF p v (wa v 94 p ((rn (fr - 1) + rh (fr - 1) + tM T q : Nat) : Int)) := OTF_at f2 (i0 := p) (fun j hj => by rw [A_eq (by omega) (by omega), if_neg hj]) (Or.inl ⟨by decide, rfl⟩)
    have i2 := names_less y3 (k := rn (fr - 1) + rh (fr - 1) + tM T q) (by omega)
    generalize wa v 94 p ((rn (fr - 1) + rh (fr - 1) + tM T q : Nat) : Int) = w3 at *
    have f3 : FR [] [] [94, 160, 162] [93, 141, 161, 163] u w3 := FR.tr f1 (FR.mo f2 (by decide) (by decide) (by decide) (by decide))
    have e3 := ERX_fr e f3 (by decide) (by decide) (by decide) i2 (by have := (hp.1.2.2.1 q q1).1.2.2.2.1; omega) (Nat.le_refl _)
    obtain ⟨t3, t4⟩ := top_ok (N := N) (k := 0) i2 (by omega)
    rw [t3, bnd_so]
    exact ok_bnd.mpr (ok_mono (errOf_ok (N := N) (a := 13) e3 (PGM_fr hp f3 (by decide) (by decide)) t4 (by omega) hN) (fun y _ hy => ok_some.mpr (RES.tr (FR.mo f3 (by decide) (by decide) (by decide) (by decide)) (OTF.tr o1 o2) (fun z _ => FR.A f3 (by decide)) hy (Nat.le_refl _))))
  · have y3 : MEI Fv P PR v p n ow kd (ro (fr - 1) + tH T q) (rn (fr - 1) + rh (fr - 1) + pM (pE qq)) bxM := by
      rcases v2 with ⟨-, y3⟩ | ⟨y2, -⟩
      · exact y3
      · exact absurd y2 (of_decide_eq_false z0)
    rw [p5] at y3
    exact ok_some.mpr (nxtR e hm hx f1 (by decide) (by decide) (by decide) h98 y3 (FR.mo f1 (by decide) (by decide) (by decide) (by decide)) o1)
end
