section
variable {Fv : Int64 → Int64 → Prop} {P : Int64 → Prop} {u v w w2 : MS} {PR N p n n2 opM bnM bxM bx2 ND fr k tp mu CN PN SN UN FN rq q m h mm : Nat} {ow kd ow2 kd2 ro rn rh cb pc ct pM pE : Nat → Nat} {T : TY} {C : CY}
theorem i20 (e : ERX Fv P PR T C ND CN p u fr ro rn rh cb pc ct q n ow kd (ro (fr - 1) + tH T q) (rn (fr - 1) + rh (fr - 1) + tM T q) bxM mu) (hG : tG T q = 0) (hk : 1 ≤ tK T q) (hk26 : tK T q ≤ 26) (hm : m < ND) (h1 : tH T m = tH T q) (h2 : tM T m = tM T q) (h3 : tL T m = tL T q) (h4 : tG T m = 0) (hkm : tK T m = tK T q - 1) (hcm : 1 < tK T q → tC T m = tC T (tC T q)) (h5 : tR T m < tR T q) (h98 : A u 98 (60 * p + (fr - 1)) = ((m : Nat) : Int)) : OK (fun v _ => RES Fv P PR T C ND CN p mu u v) (ck (inb (u.1 133) (ln 106)) (ck (inb (u.1 133) (ln 106)) (lt (upA u 106 (upd (u.2.2.1 106) (u.1 133).toNatClampNeg ((u.2.2.1 106 (u.1 133).toNatClampNeg) - 1))) (fun w14 => fb_M_otherRun_328 N () w14)))) := by
  have i := e.1
  have x4 := MEI_p i
  have hf := e.2.1.1
  have hro := (e.2.1.2.2.1 (fr - 1) (by omega))
  unfold fb_M_otherRun_328
  rw [I_F' i.2.2.1]
  refine ok_ck.mpr ⟨inb_at (k := 106) (n := 24) rfl (by omega) (by omega) (by decide), ok_ck.mpr ⟨inb_at (k := 106) (n := 24) rfl (by omega) (by omega) (by decide), ok_lt.mpr ?_⟩⟩
  rw [I_tn (x := (p : Int)) (by omega) (by omega), Int.toNat_natCast, I_A' e.2.2.2.2.1, lit1q, I_sub, show ((cb (fr - 1) + tK T q : Nat) : Int) - 1 = ((cb (fr - 1) + tK T m : Nat) : Int) from by omega, wa_e]
  have f : FR [] [] [106] [] u (wa u 106 p ((cb (fr - 1) + tK T m : Nat) : Int)) := FR.wa FR.rf (by decide)
  have e6 : ∀ j, A (wa u 106 p ((cb (fr - 1) + tK T m : Nat) : Int)) 106 j = if j = p then ((cb (fr - 1) + tK T m : Nat) : Int) else A u 106 j := fun j => A_eq (by omega) (by omega)
  have i2 := MEI_fr i f (by decide) (by decide) (by decide) (by decide) (by decide) (by decide) (by decide) (by decide) (by decide) (by decide) (by decide) (by decide) (by decide) (by decide) (by decide) (by decide) (by decide) (by decide)
  generalize wa u 106 p ((cb (fr - 1) + tK T m : Nat) : Int) = v at *
  have hfr := FRS_pop (tp := tC T m) e.2.1 f (by decide) hk hcm
  rw [← hkm] at hfr
  exact ok_some.mpr ⟨Or.inr (Or.inr (catch_next e hG hm h1 h2 h3 h4 h5 f (by decide) (by rw [FR.A f (by decide)]; exact h98) (by rw [FR.A f (by decide)]; exact e.2.2.2.2.2.1) i2 hfr (by rw [e6, if_pos rfl]))), Or.inl (FR.mo f (by decide) (by decide) (by decide) (by decide)), OTF_at f (i0 := p) (fun j hj => by rw [e6, if_neg hj]) (Or.inl ⟨by decide, rfl⟩), fun z _ => FR.A f (by decide)⟩
theorem i19 (e : ERX Fv P PR T C ND CN p u fr ro rn rh cb pc ct q n ow kd (ro (fr - 1) + tH T q) (rn (fr - 1) + rh (fr - 1) + tM T q) bxM mu) (hp : PGM Fv P PR T C pM pE ND CN PN SN UN FN u) (h23 : A u 23 q = 19) (h98 : A u 98 (60 * p + (fr - 1)) = ((q + 1 : Nat) : Int)) : OK (fun v _ => RES Fv P PR T C ND CN p mu u v) (ck (inb (u.1 133) (ln 106)) (lt (((u.1 133) * 1600) + (u.2.2.1 106 (u.1 133).toNatClampNeg)) (fun y15 => ck (inb (u.1 133) (ln 95)) (ck (inb y15 (ln 102)) (lt (upA u 102 (upd (u.2.2.1 102) y15.toNatClampNeg ((u.2.2.1 95 (u.1 133).toNatClampNeg) - 1))) (fun w16 => ck (inb y15 (ln 103)) (lt (upA w16 103 (upd (w16.2.2.1 103) y15.toNatClampNeg (I q))) (fun w17 => ck (inb (w17.1 133) (ln 92)) (ck (inb y15 (ln 104)) (lt (upA w17 104 (upd (w17.2.2.1 104) y15.toNatClampNeg (w17.2.2.1 92 (w17.1 133).toNatClampNeg))) (fun w18 => ck (inb (w18.1 133) (ln 94)) (ck (inb y15 (ln 105)) (lt (upA w18 105 (upd (w18.2.2.1 105) y15.toNatClampNeg (w18.2.2.1 94 (w18.1 133).toNatClampNeg))) (fun w19 => ck (inb (w19.1 133) (ln 106)) (ck (inb (w19.1 133) (ln 106)) (lt (upA w19 106 (upd (w19.2.2.1 106) (w19.1 133).toNatClampNeg ((w19.2.2.1 106 (w19.1 133).toNatClampNeg) + 1))) (fun w20 => fb_M_otherRun_328 N () w20))))))))))))))))) := by
  have i := e.1
  have x4 := MEI_p i
  have hf := e.2.1.1
  have q1 := e.2.2.1
  have nd := hp.1.1.1
  have hro := (e.2.1.2.2.1 (fr - 1) (by omega))
  obtain ⟨n1, n2, n3, -⟩ := (hp.1.2.2.1 q q1).1
  obtain ⟨g0, g1, g2, g3, g4, g5, g6, g7, g8, g9, -⟩ := PRG_19 hp.1 q1 h23
  have hm : q + 1 < ND := (hp.1.2.2.1 q q1).1.2.2.2.2.2.2.2.2.2.2.2.2.1 (by rw [h23]; decide)
  have p92 : A u 92 p = ((ro (fr - 1) + tH T q : Nat) : Int) := i.2.2.2.2.2.2.2.2.2.1.1
  have p94 : A u 94 p = ((rn (fr - 1) + rh (fr - 1) + tM T q : Nat) : Int) := i.2.2.2.2.2.2.2.2.2.2.1.1
  have hc : cb (fr - 1) + tK T q < 1600 := by omega
  generalize hcc : cb (fr - 1) + tK T q = c at *
  have p106 : A u 106 p = (c : Int) := e.2.2.2.2.1.trans (by rw [hcc])
  unfold fb_M_otherRun_328
  rw [I_F' i.2.2.1, I_tn (x := (p : Int)) (by omega) (by omega), Int.toNat_natCast, I_A' p106, show (1600 : Int32) = I 1600 from rfl, I_mul, I_add, show (p : Int) * 1600 + (c : Int) = ((1600 * p + c : Nat) : Int) from by omega]
  refine ok_ck.mpr ⟨inb_at (k := 106) (n := 24) rfl (by omega) (by omega) (by decide), ok_lt.mpr (ok_ck.mpr ⟨inb_at (k := 95) (n := 24) rfl (by omega) (by omega) (by decide), ok_ck.mpr ⟨inb_at (k := 102) (n := 38400) rfl (by omega) (by omega) (by decide), ok_lt.mpr ?_⟩⟩)⟩
  rw [I_tn (x := ((1600 * p + c : Nat) : Int)) (by omega) (by omega), Int.toNat_natCast, I_A' hf.2.2, lit1q, I_sub, show (fr : Int) - 1 = ((fr - 1 : Nat) : Int) from by omega, wa_e (k := 102)]
  have f2 : FR [] [] [102] [] u (wa u 102 (1600 * p + c) ((fr - 1 : Nat) : Int)) := FR.wa FR.rf (by decide)
  have e2 : ∀ j, A (wa u 102 (1600 * p + c) ((fr - 1 : Nat) : Int)) 102 j = if j = 1600 * p + c then ((fr - 1 : Nat) : Int) else A u 102 j := fun j => A_eq (by omega) (by omega)
  generalize wa u 102 (1600 * p + c) ((fr - 1 : Nat) : Int) = v2 at *
  refine ok_ck.mpr ⟨inb_at (k := 103) (n := 38400) rfl (by omega) (by omega) (by decide), ok_lt.mpr ?_⟩
  rw [wa_e (k := 103)]
  have f3 : FR [] [] [102, 103] [] u (wa v2 103 (1600 * p + c) q) := FR.wa (FR.mo f2 (by decide) (by decide) (by decide) (by decide)) (by decide)
  have e3 : ∀ j, A (wa v2 103 (1600 * p + c) q) 103 j = if j = 1600 * p + c then (q : Int) else A u 103 j := fun j => by rw [A_eq (by omega) (by omega), FR.A f2 (by decide)]
  have e32 : ∀ j, A (wa v2 103 (1600 * p + c) q) 102 j = if j = 1600 * p + c then ((fr - 1 : Nat) : Int) else A u 102 j := fun j => by rw [A_ne (by decide), e2]
  generalize wa v2 103 (1600 * p + c) q = v3 at *
  rw [I_F' (show F v3 133 = p by rw [FR.F f3 (by decide)]; exact i.2.2.1)]
  refine ok_ck.mpr ⟨inb_at (k := 92) (n := 24) rfl (by omega) (by omega) (by decide), ok_ck.mpr ⟨inb_at (k := 104) (n := 38400) rfl (by omega) (by omega) (by decide), ok_lt.mpr ?_⟩⟩
  rw [I_tn (x := (p : Int)) (by omega) (by omega), Int.toNat_natCast, I_A' (show A v3 92 p = ((ro (fr - 1) + tH T q : Nat) : Int) by rw [FR.A f3 (by decide)]; exact p92), wa_e (k := 104)]
  have f4 : FR [] [] [102, 103, 104] [] u (wa v3 104 (1600 * p + c) ((ro (fr - 1) + tH T q : Nat) : Int)) := FR.wa (FR.mo f3 (by decide) (by decide) (by decide) (by decide)) (by decide)
  have e4 : ∀ j, A (wa v3 104 (1600 * p + c) ((ro (fr - 1) + tH T q : Nat) : Int)) 104 j = if j = 1600 * p + c then ((ro (fr - 1) + tH T q : Nat) : Int) else A u 104 j := fun j => by rw [A_eq (by omega) (by omega), FR.A f3 (by decide)]
  have e42 : ∀ j, A (wa v3 104 (1600 * p + c) ((ro (fr - 1) + tH T q : Nat) : Int)) 102 j = if j = 1600 * p + c then ((fr - 1 : Nat) : Int) else A u 102 j := fun j => by rw [A_ne (by decide), e32]
  have e43 : ∀ j, A (wa v3 104 (1600 * p + c) ((ro (fr - 1) + tH T q : Nat) : Int)) 103 j = if j = 1600 * p + c then (q : Int) else A u 103 j := fun j => by rw [A_ne (by decide), e3]
  generalize wa v3 104 (1600 * p + c) ((ro (fr - 1) + tH T q : Nat) : Int) = v4 at *
  rw [I_F' (show F v4 133 = p by rw [FR.F f4 (by decide)]; exact i.2.2.1)]
  refine ok_ck.mpr ⟨inb_at (k := 94) (n := 24) rfl (by omega) (by omega) (by decide), ok_ck.mpr ⟨inb_at (k := 105) (n := 38400) rfl (by omega) (by omega) (by decide), ok_lt.mpr ?_⟩⟩
  rw [I_tn (x := (p : Int)) (by omega) (by omega), Int.toNat_natCast, I_A' (show A v4 94 p = ((rn (fr - 1) + rh (fr - 1) + tM T q : Nat) : Int) by rw [FR.A f4 (by decide)]; exact p94), wa_e (k := 105)]
  have f5 : FR [] [] [102, 103, 104, 105] [] u (wa v4 105 (1600 * p + c) ((rn (fr - 1) + rh (fr - 1) + tM T q : Nat) : Int)) := FR.wa (FR.mo f4 (by decide) (by decide) (by decide) (by decide)) (by decide)
  have e5 : ∀ j, A (wa v4 105 (1600 * p + c) ((rn (fr - 1) + rh (fr - 1) + tM T q : Nat) : Int)) 105 j = if j = 1600 * p + c then ((rn (fr - 1) + rh (fr - 1) + tM T q : Nat) : Int) else A u 105 j := fun j => by rw [A_eq (by omega) (by omega), FR.A f4 (by decide)]
  have e52 : ∀ j, A (wa v4 105 (1600 * p + c) ((rn (fr - 1) + rh (fr - 1) + tM T q : Nat) : Int)) 102 j = if j = 1600 * p + c then ((fr - 1 : Nat) : Int) else A u 102 j := fun j => by rw [A_ne (by decide), e42]
  have e53 : ∀ j, A (wa v4 105 (1600 * p + c) ((rn (fr - 1) + rh (fr - 1) + tM T q : Nat) : Int)) 103 j = if j = 1600 * p + c then (q : Int) else A u 103 j := fun j => by rw [A_ne (by decide), e43]
  have e54 : ∀ j, A (wa v4 105 (1600 * p + c) ((rn (fr - 1) + rh (fr - 1) + tM T q : Nat) : Int)) 104 j = if j = 1600 * p + c then ((ro (fr - 1) + tH T q : Nat) : Int) else A u 104 j := fun j => by rw [A_ne (by decide), e4]
  generalize wa v4 105 (1600 * p + c) ((rn (fr - 1) + rh (fr - 1) + tM T q : Nat) : Int) = v5 at *
  rw [I_F' (show F v5 133 = p by rw [FR.F f5 (by decide)]; exact i.2.2.1)]
  refine ok_ck.mpr ⟨inb_at (k := 106) (n := 24) rfl (by omega) (by omega) (by decide), ok_ck.mpr ⟨inb_at (k := 106) (n := 24) rfl (by omega) (by omega) (by decide), ok_lt.mpr ?_⟩⟩
  rw [I_tn (x := (p : Int)) (by omega) (by omega), Int.toNat_natCast, I_A' (show A v5 106 p = (c : Int) by rw [FR.A f5 (by decide)]; exact p106), I_add, wa_e (k := 106)]
  have f6 : FR [] [] [102, 103, 104, 105, 106] [] u (wa v5 106 p ((c : Int) + 1)) := FR.wa (FR.mo f5 (by decide) (by decide) (by decide) (by decide)) (by decide)
  have e6 : ∀ j, A (wa v5 106 p ((c : Int) + 1)) 106 j = if j = p then (c : Int) + 1 else A u 106 j := fun j => by rw [A_eq (by omega) (by omega), FR.A f5 (by decide)]
  have e62 : ∀ j, A (wa v5 106 p ((c : Int) + 1)) 102 j = if j = 1600 * p + c then ((fr - 1 : Nat) : Int) else A u 102 j := fun j => by rw [A_ne (by decide), e52]
  have e63 : ∀ j, A (wa v5 106 p ((c : Int) + 1)) 103 j = if j = 1600 * p + c then (q : Int) else A u 103 j := fun j => by rw [A_ne (by decide), e53]
  have e64 : ∀ j, A (wa v5 106 p ((c : Int) + 1)) 104 j = if j = 1600 * p + c then ((ro (fr - 1) + tH T q : Nat) : Int) else A u 104 j := fun j => by rw [A_ne (by decide), e54]
  have e65 : ∀ j, A (wa v5 106 p ((c : Int) + 1)) 105 j = if j = 1600 * p + c then ((rn (fr - 1) + rh (fr - 1) + tM T q : Nat) : Int) else A u 105 j := fun j => by rw [A_ne (by decide), e5]
  generalize wa v5 106 p ((c : Int) + 1) = v6 at *
  have i6 := MEI_fr i f6 (by decide) (by decide) (by decide) (by decide) (by decide) (by decide) (by decide) (by decide) (by decide) (by decide) (by decide) (by decide) (by decide) (by decide) (by decide) (by decide) (by decide) (by decide)
  have hfr := FRS_push e.2.1 f6 (by decide) x4 n3 q1 h23 e.2.2.2.1 (by rw [hcc]; exact e62) (by rw [hcc]; exact e63) (by rw [hcc]; exact e64) (by rw [hcc]; exact e65)
  have hfr2 : FRS v6 T ND p fr ro rn rh cb pc (fun x => if x = cb (fr - 1) + tK T q then q else ct x) (tK T (q + 1)) (tC T (q + 1)) := by rw [g4, g8]; exact hfr
  refine ok_some.mpr ⟨Or.inr (Or.inr (catch_next e g0 hm g1 g2 g3 g5 g9 f6 (by decide) (by rw [FR.A f6 (by decide)]; exact h98) (by rw [FR.A f6 (by decide)]; exact e.2.2.2.2.2.1) i6 hfr2 (by rw [e6, if_pos rfl, g4]; omega))), Or.inl (FR.mo f6 (by decide) (by decide) (by decide) (by decide)), ?_, fun z _ => FR.A f6 (by decide)⟩
  exact ⟨fun z hz => ⟨FR.A f6 (by decide), FR.A f6 (by decide), FR.A f6 (by decide), by rw [e6, if_neg hz]⟩, fun j _ => ⟨FR.A f6 (by decide), FR.A f6 (by decide), FR.A f6 (by decide), FR.A f6 (by decide)⟩, fun j hj => ⟨by rw [e62, if_neg (by omega)], by rw [e63, if_neg (by omega)], by rw [e64, if_neg (by omega)], by rw [e65, if_neg (by omega)]⟩, OTF_9 f6 (by decide)⟩
end
