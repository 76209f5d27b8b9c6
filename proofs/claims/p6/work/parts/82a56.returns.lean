section
variable {Fv : Int64 → Int64 → Prop} {P : Int64 → Prop} {u v w w2 : MS} {PR N p n n2 opM bnM bxM bx2 ND fr k tp mu CN PN SN UN FN rq q m h mm : Nat} {ow kd ow2 kd2 ro rn rh cb pc ct pM pE : Nat → Nat} {T : TY} {C : CY}
theorem FRS_ret {is ls as js : List Nat} (h : FRS w T ND p fr ro rn rh cb pc ct 0 tp) (hf2 : 2 ≤ fr) (f : FR is ls as js w w2) (ha : ∀ k, k ∈ [23, 98, 99, 100, 101, 102, 103, 104, 105] → k ∉ as) (h95 : A w2 95 p = ((fr - 1 : Nat) : Int)) : FRS w2 T ND p (fr - 1) ro rn rh cb pc ct (tK T (pc (fr - 2))) (tC T (pc (fr - 2))) := by
  obtain ⟨⟨q1, q2, q3⟩, z, h5, h6, h7⟩ := h
  have fr2 : ∀ i c0 kk tt a1 a2 a3, CTI w T ND p ct i c0 kk tt a1 a2 a3 → CTI w2 T ND p ct i c0 kk tt a1 a2 a3 := fun i c0 kk tt a1 a2 a3 hc => CTI_fr hc f (ha _ (by decide)) (ha _ (by decide)) (ha _ (by decide)) (ha _ (by decide)) (ha _ (by decide))
  refine ⟨⟨by omega, by omega, h95⟩, z, fun i hi => by rw [FR.A f (ha _ (by decide)), FR.A f (ha _ (by decide)), FR.A f (ha _ (by decide))]; exact h5 i (by omega), fun i hi => ?_, ?_⟩
  · obtain ⟨r1, r2, r3, r4, r5, r6, r7, r8, r9⟩ := h6 i (by omega)
    exact ⟨by rw [FR.A f (ha _ (by decide))]; exact r1, r2, r3, r4, r5, r6, r7, r8, fr2 _ _ _ _ _ _ _ r9⟩
  · obtain ⟨r1, r2, r3, r4, r5, r6, r7, r8, r9⟩ := h6 (fr - 2) (by omega)
    rw [show fr - 1 - 1 = fr - 2 from by omega]
    exact fr2 _ _ _ _ _ _ _ r9
theorem returns_ok (a : ATQ Fv P PR T ND p w fr ro rn rh cb pc ct q n ow kd bxM) (h109 : A w 109 p = 0) (hm : MODE w T C ND CN p (ro (fr - 1)) (rn (fr - 1)) (rh (fr - 1)) (sR T pc (fr - 1)) q bxM mu) (hp : PGM Fv P PR T C pM pE ND CN PN SN UN FN w) (hG : tG T q = 0) (hH : 1 ≤ tH T q) (hK : tK T q = 0) (hR : 1 ≤ tR T q) : OK (fun w2 _ => RES Fv P PR T C ND CN p mu w w2) (fm_M_returns N w) := by
  obtain ⟨i, h, a3, a4, a5, a6⟩ := a
  have x4 := MEI_p i
  have hf := h.1
  have hro := h.2.2.1 (fr - 1) (by omega)
  obtain ⟨n1, n2, -⟩ := (hp.1.2.2.1 q a4).1
  obtain ⟨y2, y3⟩ : F w 152 = 0 ∧ CLG w (sR T pc (fr - 1) + tR T q) 0 mu := by
    rcases hm with ⟨-, y⟩ | ⟨-, c, s, many, hg', hb', mm', r, t1, t2, -⟩
    · exact y
    · omega
  clear hm
  have i' := i
  rw [show ro (fr - 1) + tH T q = ro (fr - 1) + (tH T q - 1) + 1 from by omega] at i'
  unfold fm_M_returns fb_M_returns_0 fb_M_returns_83
  refine ok_bnd.mpr (ok_mono (take_ok (N := N) i') (fun v1 r hv => ?_))
  obtain ⟨z1, -, gr, i1⟩ := hv
  have f1 : FR [] [] [92] [] w v1 := by rw [z1]; exact FR.wa FR.rf (by decide)
  have e1 : ∀ j, j ≠ p → A v1 92 j = A w 92 j := fun j hj => by rw [z1, A_eq (by omega) (by omega), if_neg hj]
  clear z1
  rw [frame0_f (fr := fr) i1 (by rw [FR.A f1 (by decide)]; exact hf.2.2) ⟨hf.1, hf.2.1⟩, bnd_so, I_F' i1.2.2.1]
  refine ok_ck.mpr ⟨inb_at (k := 100) (n := 1440) rfl (by omega) (by omega) (by decide), ok_ck.mpr ⟨inb_at (k := 92) (n := 24) rfl (by omega) (by omega) (by decide), ok_lt.mpr ?_⟩⟩
  rw [I_tn (x := ((60 * p + (fr - 1) : Nat) : Int)) (by omega) (by omega), Int.toNat_natCast, I_tn (x := (p : Int)) (by omega) (by omega), Int.toNat_natCast, I_A' (show A v1 100 (60 * p + (fr - 1)) = ((ro (fr - 1) : Nat) : Int) by rw [FR.A f1 (by decide)]; exact hro.1), wa_e (k := 92)]
  have f2 : FR [] [] [92] [] w (wa v1 92 p ((ro (fr - 1) : Nat) : Int)) := FR.wa f1 (by decide)
  have e2 : ∀ j, j ≠ p → A (wa v1 92 p ((ro (fr - 1) : Nat) : Int)) 92 j = A w 92 j := fun j hj => by rw [A_eq (by omega) (by omega), if_neg hj, e1 j hj]
  have i2 := ops_less i1 (k := ro (fr - 1)) (by omega)
  generalize wa v1 92 p ((ro (fr - 1) : Nat) : Int) = v2 at *
  rw [I_F' i2.2.2.1]
  refine ok_ck.mpr ⟨inb_at (k := 99) (n := 1440) rfl (by omega) (by omega) (by decide), ok_ck.mpr ⟨inb_at (k := 94) (n := 24) rfl (by omega) (by omega) (by decide), ok_lt.mpr ?_⟩⟩
  rw [I_tn (x := (p : Int)) (by omega) (by omega), Int.toNat_natCast, I_A' (show A v2 99 (60 * p + (fr - 1)) = ((rn (fr - 1) : Nat) : Int) by rw [FR.A f2 (by decide)]; exact hro.2.1), wa_e (k := 94)]
  have f3 : FR [] [] [92, 94] [] w (wa v2 94 p ((rn (fr - 1) : Nat) : Int)) := FR.wa (FR.mo f2 (by decide) (by decide) (by decide) (by decide)) (by decide)
  have e3 : ∀ j, j ≠ p → A (wa v2 94 p ((rn (fr - 1) : Nat) : Int)) 94 j = A w 94 j := fun j hj => by rw [A_eq (by omega) (by omega), if_neg hj, FR.A f2 (by decide)]
  have e32 : ∀ j, j ≠ p → A (wa v2 94 p ((rn (fr - 1) : Nat) : Int)) 92 j = A w 92 j := fun j hj => by rw [A_ne (by decide), e2 j hj]
  have i3 := names_less i2 (k := rn (fr - 1)) (by omega)
  generalize wa v2 94 p ((rn (fr - 1) : Nat) : Int) = v3 at *
  rw [I_F' i3.2.2.1]
  refine ok_ck.mpr ⟨inb_at (k := 95) (n := 24) rfl (by omega) (by omega) (by decide), ok_ck.mpr ⟨inb_at (k := 95) (n := 24) rfl (by omega) (by omega) (by decide), ok_lt.mpr ?_⟩⟩
  rw [I_tn (x := (p : Int)) (by omega) (by omega), Int.toNat_natCast, I_A' (show A v3 95 p = ((fr : Nat) : Int) by rw [FR.A f3 (by decide)]; exact hf.2.2), lit1q, I_sub, show ((fr : Nat) : Int) - 1 = ((fr - 1 : Nat) : Int) from by omega, wa_e (k := 95)]
  have f4 : FR [] [] [92, 94, 95] [] w (wa v3 95 p ((fr - 1 : Nat) : Int)) := FR.wa (FR.mo f3 (by decide) (by decide) (by decide) (by decide)) (by decide)
  have f34 : FR [] [] [95] [] v3 (wa v3 95 p ((fr - 1 : Nat) : Int)) := FR.wa FR.rf (by decide)
  have e4 : ∀ j, A (wa v3 95 p ((fr - 1 : Nat) : Int)) 95 j = if j = p then ((fr - 1 : Nat) : Int) else A w 95 j := fun j => by rw [A_eq (by omega) (by omega), FR.A f3 (by decide)]
  have e42 : ∀ j, j ≠ p → A (wa v3 95 p ((fr - 1 : Nat) : Int)) 92 j = A w 92 j := fun j hj => by rw [A_ne (by decide), e32 j hj]
  have e43 : ∀ j, j ≠ p → A (wa v3 95 p ((fr - 1 : Nat) : Int)) 94 j = A w 94 j := fun j hj => by rw [A_ne (by decide), e3 j hj]
  have i4 := MEI_fr i3 f34 (by decide) (by decide) (by decide) (by decide) (by decide) (by decide) (by decide) (by decide) (by decide) (by decide) (by decide) (by decide) (by decide) (by decide) (by decide) (by decide) (by decide) (by decide)
  generalize wa v3 95 p ((fr - 1 : Nat) : Int) = v4 at *
  have o4 : OTF p w v4 := ⟨fun z hz => ⟨e42 z hz, e43 z hz, by rw [e4, if_neg hz], FR.A f4 (by decide)⟩, fun j _ => ⟨FR.A f4 (by decide), FR.A f4 (by decide), FR.A f4 (by decide), FR.A f4 (by decide)⟩, fun j _ => ⟨FR.A f4 (by decide), FR.A f4 (by decide), FR.A f4 (by decide), FR.A f4 (by decide)⟩, OTF_9 f4 (by decide)⟩
  rw [I_F' i4.2.2.1]
  refine ok_ck.mpr ⟨inb_at (k := 95) (n := 24) rfl (by omega) (by omega) (by decide), ?_⟩
  rw [I_tn (x := (p : Int)) (by omega) (by omega), Int.toNat_natCast, I_A' (show A v4 95 p = ((fr - 1 : Nat) : Int) by rw [e4, if_pos rfl]), lit0q, decE (by omega) (by omega) (by omega) (by omega)]
  refine ok_br.mpr ⟨fun _ => ?_, fun z => ?_⟩
  · rw [show (4 : Int32) = I 4 from rfl, term_e, bnd_so]
    exact ok_bnd.mpr (ok_mono (ends_ok (N := N) (wr := 0) i4 (GT_atom (a := 4) hp.2.1 (by omega)) (by omega)) (fun v _ hv => ok_some.mpr ⟨Or.inl hv.1, Or.inr ⟨FR.tr (FR.mo f4 (by decide) (by decide) (by decide) (by decide)) (FR.mo hv.2.1 (by decide) (by decide) (by decide) (by decide)), hv.1.2⟩, OTF.tr o4 (OTF_fr hv.2.1 (by decide)), fun z hz => by rw [hv.2.2 z hz, FR.A f4 (by decide)]⟩))
  · have z' := of_decide_eq_false z
    refine ok_bnd.mpr (ok_mono (put_ok (N := N) i4 gr (by omega)) (fun v _ hv => ok_some.mpr ?_))
    obtain ⟨v0, iv⟩ := hv
    have fv : FR [] [] [92] [91] v4 v := by rw [v0]; exact FR.wa (FR.wj FR.rf (by decide)) (by decide)
    have ev : ∀ j, j ≠ p → A v 92 j = A v4 92 j := fun j hj => by rw [v0, A_eq (by omega) (by omega), if_neg hj]; rfl
    clear v0
    have fw : FR [] [] [92, 94, 95] [91] w v := FR.tr (FR.mo f4 (by decide) (by decide) (by decide) (by decide)) (FR.mo fv (by decide) (by decide) (by decide) (by decide))
    obtain ⟨r1, r2, r3, r4, r5, r6, r7, r8, -⟩ := h.2.2.2.1 (fr - 2) (by omega)
    rw [show fr - 2 + 1 = fr - 1 from by omega] at r5 r7 r8
    rw [hK] at h a6
    have hfr := FRS_ret h (by omega) fw (by decide) (by rw [FR.A fv (by decide), e4, if_pos rfl])
    have sr : sR T pc (fr - 1) = sR T pc (fr - 2) + tR T (pc (fr - 2)) := by
      obtain ⟨f2, hf2⟩ : ∃ f2, fr = f2 + 2 := ⟨fr - 2, by omega⟩
      subst hf2
      rfl
    refine ⟨Or.inr (Or.inr ⟨mu - 1, ?_, fr - 1, ro, rn, rh, cb, pc, ct, pc (fr - 2), n, ow, kd, bxM, ⟨?_, hfr, ?_, r2, ?_, ?_⟩, by rw [FR.A fw (by decide)]; exact h109, Or.inl ⟨r3, by rw [FR.F fw (by decide)]; exact y2, ?_⟩⟩), Or.inl (FR.mo fw (by decide) (by decide) (by decide) (by decide)), OTF.tr o4 ⟨fun z hz => ⟨ev z hz, FR.A fv (by decide), FR.A fv (by decide), FR.A fv (by decide)⟩, fun j _ => ⟨FR.A fv (by decide), FR.A fv (by decide), FR.A fv (by decide), FR.A fv (by decide)⟩, fun j _ => ⟨FR.A fv (by decide), FR.A fv (by decide), FR.A fv (by decide), FR.A fv (by decide)⟩, OTF_9 fv (by decide)⟩, fun z _ => FR.A fw (by decide)⟩
    · obtain ⟨c1, c2, c3, c4⟩ := y3; omega
    · rw [show fr - 1 - 1 = fr - 2 from by omega, ← r5, ← r7]; exact iv
    · rw [show fr - 1 - 1 = fr - 2 from by omega, FR.A fw (by decide)]; exact r1
    · rw [show fr - 1 - 1 = fr - 2 from by omega]; exact r6
    · rw [show fr - 1 - 1 = fr - 2 from by omega, FR.A fw (by decide), ← r8]; exact a6
    · obtain ⟨c1, c2, c3, c4⟩ := y3
      unfold CLG
      rw [FR.F fw (by decide), FR.F fw (by decide), show fr - 1 - 1 = fr - 2 from by omega]
      exact ⟨c1, c2, c3, by omega⟩
end
