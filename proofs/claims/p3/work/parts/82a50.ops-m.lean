section
section
variable {Fv : Int64 → Int64 → Prop} {P : Int64 → Prop} {u v w w2 : MS} {PR N p n n2 opM bnM bxM bx2 ND fr k tp mu CN PN SN UN FN rq q m h mm : Nat} {ow kd ow2 kd2 ro rn rh cb pc ct pM pE : Nat → Nat} {T : TY} {C : CY}
theorem ERX_fr {is ls as js : List Nat} (e : ERX Fv P PR T C ND CN p u fr ro rn rh cb pc ct q n ow kd opM bnM bxM mu) (f : FR is ls as js u v) (hi : ∀ k, k ∈ [149, 150, 151, 152, 153, 154, 155, 156, 157, 158, 159, 164, 165] → k ∉ is) (ha : ∀ k, k ∈ [23, 25, 31, 41, 95, 98, 99, 100, 101, 102, 103, 104, 105, 106, 109] → k ∉ as) (hj : 111 ∉ js) {o2 b2 : Nat} (i : MEI Fv P PR v p n2 ow2 kd2 o2 b2 bxM) (ho : ro (fr - 1) + tB T q ≤ o2) (hb : rn (fr - 1) + rh (fr - 1) + tM T q ≤ b2) : ERX Fv P PR T C ND CN p v fr ro rn rh cb pc ct q n2 ow2 kd2 o2 b2 bxM mu := by
  obtain ⟨-, h2, h3, h4, h5, h6, h7, h8, h9⟩ := e
  refine ⟨i, FRS_98 h2 f (fun k hk => ha k (by revert hk; simp; omega)) (fun j _ => FR.A f (ha _ (by decide))), h3, h4, by rw [FR.A f (ha _ (by decide))]; exact h5, by rw [FR.A f (ha _ (by decide))]; exact h6, ho, hb, ?_⟩
  rcases h9 with ⟨y1, y2, y3⟩ | ⟨y1, c, s, many, hg', hb', mm', r, t1, t2, t3, t4, t5⟩
  · refine Or.inl ⟨y1, by rw [FR.F f (hi _ (by decide))]; exact y2, ?_⟩
    unfold CLG; rw [FR.F f (hi _ (by decide)), FR.F f (hi _ (by decide))]; exact y3
  · refine Or.inr ⟨by rw [FR.F f (hi _ (by decide))]; exact y1, c, s, many, hg', hb', mm', r, TRS_fr t1 f (fun k hk => hi k (by revert hk; simp; omega)) (fun k hk => ha k (by revert hk; simp; omega)) hj, t2, by rw [FR.F f (hi _ (by decide))]; exact t3, by rw [FR.F f (hi _ (by decide))]; exact t4, ?_⟩
    unfold CLG; rw [FR.F f (hi _ (by decide)), FR.F f (hi _ (by decide)), FR.F f (hi _ (by decide))]; exact t5
theorem putR {t : Int64} (e : ERX Fv P PR T C ND CN p u fr ro rn rh cb pc ct q n ow kd opM bnM bxM mu) (hm : m < ND) (hx : NX T q m h mm) (h98 : A u 98 (60 * p + (fr - 1)) = ((m : Nat) : Int)) (ho : opM + 1 = ro (fr - 1) + h) (hb : bnM = rn (fr - 1) + rh (fr - 1) + mm) (g : GT n ow kd P t) (hc : opM < 46000) : OK (fun v _ => RES Fv P PR T C ND CN p mu u v) (fm_M_put N u t) := by
  refine ok_mono (put_ok (N := N) e.1 g hc) (fun v _ hv => ?_)
  obtain ⟨v1, v2⟩ := hv
  have x4 := MEI_p e.1
  have f : FR [] [] [92] [91] u v := by rw [v1]; exact FR.wa (FR.wj FR.rf (by decide)) (by decide)
  refine nxtR e hm hx f (by decide) (by decide) (by decide) h98 (by rw [← ho, ← hb]; exact v2) (FR.mo f (by decide) (by decide) (by decide) (by decide)) ?_
  refine ⟨fun z hz => ⟨?_, FR.A f (by decide), FR.A f (by decide), FR.A f (by decide)⟩, fun j _ => ⟨FR.A f (by decide), FR.A f (by decide), FR.A f (by decide), FR.A f (by decide)⟩, fun j _ => ⟨FR.A f (by decide), FR.A f (by decide), FR.A f (by decide), FR.A f (by decide)⟩, OTF_9 f (by decide)⟩
  rw [v1, A_eq (by omega) (by omega), if_neg hz]; rfl
theorem takeE (e : ERX Fv P PR T C ND CN p u fr ro rn rh cb pc ct q n ow kd (opM + 1) bnM bxM mu) (ho : ro (fr - 1) + tB T q ≤ opM) : OK (fun v r => ERX Fv P PR T C ND CN p v fr ro rn rh cb pc ct q n ow kd opM bnM bxM mu ∧ GT n ow kd P r ∧ FR [] [] [92] [] u v ∧ OTF p u v) (fm_M_take N u) := by
  refine ok_mono (take_ok (N := N) e.1) (fun v r hv => ?_)
  obtain ⟨v1, v2, v3, v4⟩ := hv
  have x4 := MEI_p e.1
  have om : opM ≤ 46000 := v4.2.2.2.2.2.2.2.2.2.1.2
  have f : FR [] [] [92] [] u v := by rw [v1]; exact FR.wa FR.rf (by decide)
  exact ⟨ERX_fr e f (by decide) (by decide) (by decide) v4 ho e.2.2.2.2.2.2.2.1, v3, f, OTF_at f (i0 := p) (fun j hj => by rw [v1, A_eq (by omega) (by omega), if_neg hj]) (Or.inl ⟨by decide, rfl⟩)⟩
theorem RES.pre {is ls as js : List Nat} {w0 : MS} (f : FR is ls as js w0 u) (o : OTF p w0 u) (h1 : ∀ k, k ∈ is → k ∈ [119, 136, 138, 140, 152, 153, 154, 155, 156, 157, 158, 159, 165, 166, 169]) (h2 : ∀ k, k ∈ ls → k ∈ [139]) (h3 : ∀ k, k ∈ as → k ∈ [89, 90, 92, 94, 95, 96, 97, 98, 99, 100, 101, 102, 103, 104, 105, 106, 108, 110, 114, 115, 135, 142, 145, 146, 147, 160, 162, 168]) (h4 : ∀ k, k ∈ js → k ∈ [88, 91, 93, 107, 111, 134, 137, 141, 148, 161, 163, 167]) (r : RES Fv P PR T C ND CN p mu u w) : RES Fv P PR T C ND CN p mu w0 w :=
  RES.tr (FR.mo f h1 h2 (fun k hk => by have := h3 k hk; revert this; simp; omega) h4) o (fun z _ => FR.A f (fun hk => by have := h3 109 hk; revert this; decide)) r (Nat.le_refl _)
theorem i17 (e : ERX Fv P PR T C ND CN p u fr ro rn rh cb pc ct q n ow kd (ro (fr - 1) + tH T q) (rn (fr - 1) + rh (fr - 1) + tM T q) bxM mu) (hq : tB T q + 1 ≤ tH T q) (hm : m < ND) (hx : NX T q m (tH T q - 1) (tM T q)) (h98 : A u 98 (60 * p + (fr - 1)) = ((m : Nat) : Int)) : OK (fun v _ => RES Fv P PR T C ND CN p mu u v) (bnd (fm_M_take N u) (fun u20 r20 => fb_M_one_468 N () u20)) := by
  have e' := e
  rw [show ro (fr - 1) + tH T q = ro (fr - 1) + (tH T q - 1) + 1 from by omega] at e'
  unfold fb_M_one_468
  refine ok_bnd.mpr (ok_mono (takeE (N := N) e' (by omega)) (fun v r hv => ok_some.mpr ?_))
  obtain ⟨v1, v2, v3, v4⟩ := hv
  exact nxtR e hm hx v3 (by decide) (by decide) (by decide) h98 v1.1 (FR.mo v3 (by decide) (by decide) (by decide) (by decide)) v4
theorem i1 {a b : Int} (e : ERX Fv P PR T C ND CN p u fr ro rn rh cb pc ct q n ow kd (ro (fr - 1) + tH T q) (rn (fr - 1) + rh (fr - 1) + tM T q) bxM mu) (hp : PGM Fv P PR T C pM pE ND CN PN SN UN FN u) (hPa : ∀ a : Int, 0 ≤ a → a < F u 14 → P (mk 1 a)) (hm : m < ND) (hx : NX T q m (tH T q + 1) (tM T q)) (h98 : A u 98 (60 * p + (fr - 1)) = ((m : Nat) : Int)) (ha : A u 25 q = a) (hb : A u 26 q = b) (hab : a = 0 ∨ (a = 1 ∧ 0 ≤ b ∧ b < F u 14)) : OK (fun v _ => RES Fv P PR T C ND CN p mu u v) (ck (inb (I q) (ln 25)) (ck (inb (I q) (ln 26)) (bnd (fm_M_term N u (u.2.2.1 25 (I q).toNatClampNeg) (u.2.2.1 26 (I q).toNatClampNeg)) (fun u27 r27 => bnd (fm_M_put N u27 r27) (fun u28 _ => fb_M_one_468 N () u28))))) := by
  have q1 := e.2.2.1
  have nd := hp.1.1.1
  have rb := A_r u 26 q
  have hf := e.2.1.1
  have hro := (e.2.1.2.2.1 (fr - 1) (by omega)).2.2.2.2.1
  have hH := (hp.1.2.2.1 q q1).1.1
  unfold fb_M_one_468
  refine ok_ck.mpr ⟨inb_at (k := 25) (n := 16000) rfl (by omega) (by omega) (by decide), ok_ck.mpr ⟨inb_at (k := 26) (n := 16000) rfl (by omega) (by omega) (by decide), ?_⟩⟩
  rw [I_tn (by omega) (by omega), Int.toNat_natCast, I_A' ha, I_A' hb, term_e, bnd_so]
  have g : GT n ow kd P (mk a b) := by
    refine Or.inl ⟨nh_mk (by omega), ?_⟩
    rcases hab with z | ⟨z, z1, z2⟩
    · subst z; exact hp.2.1.2.2.2.1 b (by omega) (by omega)
    · subst z; exact hPa b z1 z2
  exact ok_bnd.mpr (ok_mono (putR (N := N) e hm hx h98 (by omega) rfl g (by omega)) (fun v _ hv => ok_some.mpr hv))
theorem i3 {c : Int} (e : ERX Fv P PR T C ND CN p u fr ro rn rh cb pc ct q n ow kd (ro (fr - 1) + tH T q) (rn (fr - 1) + rh (fr - 1) + tM T q) bxM mu) (hp : PGM Fv P PR T C pM pE ND CN PN SN UN FN u) (hm : m < ND) (hx : NX T q m (tH T q + 1) (tM T q)) (h98 : A u 98 (60 * p + (fr - 1)) = ((m : Nat) : Int)) (ha : A u 25 q = c) (hc : NCO c (tM T q) (tL T q)) : OK (fun v _ => RES Fv P PR T C ND CN p mu u v) (ck (inb (I q) (ln 25)) (bnd (fm_M_nameAt N u (u.2.2.1 25 (I q).toNatClampNeg)) (fun u25 r25 => bnd (fm_M_put N u25 r25) (fun u26 _ => fb_M_one_468 N () u26)))) := by
  have q1 := e.2.2.1
  have nd := hp.1.1.1
  have hf := e.2.1.1
  have hro := (e.2.1.2.2.1 (fr - 1) (by omega))
  have hH := (hp.1.2.2.1 q q1).1.1
  have hMM := (hp.1.2.2.1 q q1).1.2.1
  have hl := e.2.2.2.1
  unfold fb_M_one_468
  refine ok_ck.mpr ⟨inb_at (k := 25) (n := 16000) rfl (by omega) (by omega) (by decide), ?_⟩
  rw [I_tn (by omega) (by omega), Int.toNat_natCast, I_A' ha]
  have hc' := hc
  unfold NCO at hc'
  rw [← hl] at hc'
  refine ok_bnd.mpr (ok_mono (nameAt_ok (N := N) (fr := fr) (rn := rn (fr - 1)) (rh := rh (fr - 1)) (m := tM T q) e.1 ⟨hf.2.2, hf.1, hf.2.1, hro.2.1, hro.2.2.1⟩ rfl hc' (by omega)) (fun v r hv => ?_))
  obtain ⟨v1, v2⟩ := hv
  subst v1
  exact ok_bnd.mpr (ok_mono (putR (N := N) e hm hx h98 (by omega) rfl v2 (by omega)) (fun v _ hv => ok_some.mpr hv))
end
end
section
section
variable {Fv : Int64 → Int64 → Prop} {P : Int64 → Prop} {u v w w2 : MS} {PR N p n n2 opM bnM bxM bx2 ND fr k tp mu CN PN SN UN FN rq q m h mm : Nat} {ow kd ow2 kd2 ro rn rh cb pc ct pM pE : Nat → Nat} {T : TY} {C : CY}
theorem gotoR (e : ERX Fv P PR T C ND CN p u fr ro rn rh cb pc ct q n ow kd opM bnM bxM mu) (hm : m < ND) (hnd : ND ≤ 16000) (hx : NX T q m h mm) (ho : opM = ro (fr - 1) + h) (hb : bnM = rn (fr - 1) + rh (fr - 1) + mm) : OK (fun v _ => RES Fv P PR T C ND CN p mu u v) (fm_M_goTo N u (I m)) := by
  have x4 := MEI_p e.1
  have hf := e.2.1.1
  rw [goTo_ok e.1 hf.2.2 ⟨hf.1, hf.2.1⟩ (by omega)]
  have f98 : FR [] [] [98] [] u (wa u 98 (60 * p + (fr - 1)) m) := FR.wa FR.rf (by decide)
  have e98 : ∀ j, A (wa u 98 (60 * p + (fr - 1)) m) 98 j = if j = 60 * p + (fr - 1) then (m : Int) else A u 98 j := fun j => A_eq (by omega) (by omega)
  have i2 := MEI_fr e.1 f98 (by decide) (by decide) (by decide) (by decide) (by decide) (by decide) (by decide) (by decide) (by decide) (by decide) (by decide) (by decide) (by decide) (by decide) (by decide) (by decide) (by decide) (by decide)
  rw [ho, hb] at i2
  exact ok_some.mpr ⟨Or.inr (Or.inr (nxt e hm hx f98 (by decide) (by decide) (by decide) (by rw [e98, if_pos rfl]) (fun j hj => by rw [e98, if_neg hj]) (by rw [FR.A f98 (by decide)]; exact e.2.2.2.2.2.1) i2 (Or.inl rfl))), Or.inl (FR.mo f98 (by decide) (by decide) (by decide) (by decide)), OTF_at f98 (i0 := 60 * p + (fr - 1)) (fun j hj => by rw [e98, if_neg hj]) (Or.inr (Or.inl ⟨by decide, by omega, by omega⟩)), fun z _ => FR.A f98 (by decide)⟩
theorem namesTo_ok {a : Nat} (e : ERX Fv P PR T C ND CN p u fr ro rn rh cb pc ct q n ow kd opM bnM bxM mu) (hb : rn (fr - 1) + rh (fr - 1) + a ≤ bnM) : OK (fun v _ => v = wa u 94 p ((rn (fr - 1) + rh (fr - 1) + a : Nat) : Int) ∧ MEI Fv P PR v p n ow kd opM (rn (fr - 1) + rh (fr - 1) + a) bxM ∧ FR [] [] [94] [] u v ∧ OTF p u v) (fm_M_namesTo N u (I a)) := by
  have x4 := MEI_p e.1
  have hf := e.2.1.1
  have hro := (e.2.1.2.2.1 (fr - 1) (by omega))
  have bb : bnM ≤ 2500 := e.1.2.2.2.2.2.2.2.2.2.2.1.2
  unfold fm_M_namesTo fb_M_namesTo_0
  rw [frame0_f e.1 hf.2.2 ⟨hf.1, hf.2.1⟩, bnd_so]
  refine ok_ck.mpr ⟨inb_at (k := 99) (n := 1440) rfl (by omega) (by omega) (by decide), ok_ck.mpr ⟨inb_at (k := 101) (n := 1440) rfl (by omega) (by omega) (by decide), ?_⟩⟩
  rw [I_F' e.1.2.2.1]
  refine ok_ck.mpr ⟨inb_at (k := 94) (n := 24) rfl (by omega) (by omega) (by decide), ok_lt.mpr ?_⟩
  rw [I_tn (x := ((60 * p + (fr - 1) : Nat) : Int)) (by omega) (by omega), Int.toNat_natCast, I_tn (x := (p : Int)) (by omega) (by omega), Int.toNat_natCast, I_A' hro.2.1, I_A' hro.2.2.1, I_add, I_add, show ((rn (fr - 1) : Nat) : Int) + ((rh (fr - 1) : Nat) : Int) + (a : Int) = ((rn (fr - 1) + rh (fr - 1) + a : Nat) : Int) from by omega, wa_e]
  have f : FR [] [] [94] [] u (wa u 94 p ((rn (fr - 1) + rh (fr - 1) + a : Nat) : Int)) := FR.wa FR.rf (by decide)
  exact ok_some.mpr ⟨rfl, names_less e.1 (k := rn (fr - 1) + rh (fr - 1) + a) hb, f, OTF_at f (i0 := p) (fun j hj => by rw [A_eq (by omega) (by omega), if_neg hj]) (Or.inl ⟨by decide, rfl⟩)⟩
theorem i18 {a : Nat} (e : ERX Fv P PR T C ND CN p u fr ro rn rh cb pc ct q n ow kd (ro (fr - 1) + tH T q) (rn (fr - 1) + rh (fr - 1) + tM T q) bxM mu) (hnd : ND ≤ 16000) (hm : m < ND) (ha : A u 25 q = a) (ham : a ≤ tM T q) (hx : NX T q m (tH T q) a) (h98 : A u 98 (60 * p + (fr - 1)) = ((m : Nat) : Int)) : OK (fun v _ => RES Fv P PR T C ND CN p mu u v) (ck (inb (I q) (ln 25)) (bnd (fm_M_namesTo N u (u.2.2.1 25 (I q).toNatClampNeg)) (fun u19 _ => fb_M_one_468 N () u19))) := by
  have q1 := e.2.2.1
  unfold fb_M_one_468
  refine ok_ck.mpr ⟨inb_at (k := 25) (n := 16000) rfl (by omega) (by omega) (by decide), ?_⟩
  rw [I_tn (by omega) (by omega), Int.toNat_natCast, I_A' ha]
  refine ok_bnd.mpr (ok_mono (namesTo_ok (N := N) e (by omega)) (fun v _ hv => ok_some.mpr ?_))
  obtain ⟨-, v2, v3, v4⟩ := hv
  exact nxtR e hm hx v3 (by decide) (by decide) (by decide) h98 v2 (FR.mo v3 (by decide) (by decide) (by decide) (by decide)) v4
theorem truth1 : fm_M_truth N u 1 = some (u, mk 1 0) := rfl
theorem truth0 : fm_M_truth N u 0 = some (u, mk 1 1) := rfl
theorem isTruth_ok {t : Int64} : OK (fun v r => v = u ∧ (r = I 0 ∨ r = I 1)) (fm_M_isTruth N u t) := by
  unfold fm_M_isTruth fb_M_isTruth_0 fb_M_isTruth_18 fb_M_isTruth_23
  rw [truth1, bnd_so, truth0, bnd_so]
  exact ok_br.mpr ⟨fun _ => ok_ck.mpr ⟨rfl, ok_some.mpr ⟨rfl, Or.inr rfl⟩⟩, fun _ => ok_br.mpr ⟨fun _ => ok_ck.mpr ⟨rfl, ok_some.mpr ⟨rfl, Or.inr rfl⟩⟩, fun _ => ok_ck.mpr ⟨rfl, ok_some.mpr ⟨rfl, Or.inl rfl⟩⟩⟩⟩
theorem GT_atom {a : Int} (hPB : PB P PR) (h : 0 ≤ a ∧ a < 22) : GT n ow kd P (mk 1 a) := Or.inl ⟨nh_mk (by omega), hPB.1 a h.1 h.2⟩
theorem ERX_g (e : ERX Fv P PR T C ND CN p u fr ro rn rh cb pc ct q n ow kd opM bnM bxM mu) (h : tG T q ≠ 0) : F u 152 = 1 := by
  rcases e.2.2.2.2.2.2.2.2 with ⟨y, -⟩ | ⟨y, -⟩
  · exact absurd y h
  · exact y
theorem i22 (e : ERX Fv P PR T C ND CN p u fr ro rn rh cb pc ct q n ow kd (ro (fr - 1) + tH T q) (rn (fr - 1) + rh (fr - 1) + tM T q) bxM mu) (hp : PGM Fv P PR T C pM pE ND CN PN SN UN FN u) (hG : tG T q ≠ 0) (hq : tB T q + 1 ≤ tH T q) (hm : m < ND) (hx : NX T q m (tH T q - 1) (tM T q)) (h98 : A u 98 (60 * p + (fr - 1)) = ((m : Nat) : Int)) (hN : 60000 ≤ N) : OK (fun v _ => RES Fv P PR T C ND CN p mu u v) (bnd (fm_M_take N u) (fun u10 r10 => bnd (fm_M_truth N u10 1) (fun u11 r11 => br (decide ((lg_cmp r10 r11) = 0)) (fb_M_one_468 N () u11) (bnd (fr_M_guardFails N u11) (fun u12 _ => fb_M_one_468 N () u12))))) := by
  have e' := e
  rw [show ro (fr - 1) + tH T q = ro (fr - 1) + (tH T q - 1) + 1 from by omega] at e'
  unfold fb_M_one_468
  refine ok_bnd.mpr (ok_mono (takeE (N := N) e' (by omega)) (fun v r hv => ?_))
  obtain ⟨v1, v2, v3, v4⟩ := hv
  rw [truth1, bnd_so]
  refine ok_br.mpr ⟨fun _ => ok_some.mpr (nxtR e hm hx v3 (by decide) (by decide) (by decide) h98 v1.1 (FR.mo v3 (by decide) (by decide) (by decide) (by decide)) v4), fun _ => ?_⟩
  exact ok_bnd.mpr (ok_mono (fails_ok (N := N) v1 (PGM_fr hp v3 (by decide) (by decide)) (ERX_g v1 hG) hN) (fun x _ hx => ok_some.mpr (RES.tr (FR.mo v3 (by decide) (by decide) (by decide) (by decide)) v4 (fun z _ => FR.A v3 (by decide)) hx (Nat.le_refl _))))
theorem i23 (e : ERX Fv P PR T C ND CN p u fr ro rn rh cb pc ct q n ow kd (ro (fr - 1) + tH T q) (rn (fr - 1) + rh (fr - 1) + tM T q) bxM mu) (hp : PGM Fv P PR T C pM pE ND CN PN SN UN FN u) (hG : tG T q ≠ 0) (hq : tH T q = cH C (tG T q - 1)) (hN : 60000 ≤ N) : OK (fun v _ => RES Fv P PR T C ND CN p mu u v) (bnd (fm_M_chosen N u) (fun u9 _ => fb_M_one_468 N () u9)) := by
  obtain ⟨i, h2, h3, h4, h5, h6, h7, h8, h9⟩ := e
  obtain ⟨c, s, many, hg, hb, mm', r, t1, t2, t3, t4, t5⟩ : ∃ c s many hg hb m r, TRS u T C ND CN p (ro (fr - 1)) (rn (fr - 1)) (rh (fr - 1)) (tK T q) (tC T q) s many hg hb m r bxM ∧ tG T q = c + 1 ∧ F u 154 = ((c : Nat) : Int) ∧ F u 157 = ((ro (fr - 1) + hg : Nat) : Int) ∧ CLG u (sR T pc (fr - 1) + r) ((if s = 3 then (bxM : Int) - F u 158 else 0) * 16002 + tR T q + 1) mu := by
    rcases h9 with ⟨y, -⟩ | ⟨-, y⟩
    · exact absurd y hG
    · exact y
  obtain ⟨c', nc1, nc2, nc3, nc4, nc5, nc6, nc7, nc8⟩ := (hp.1.2.2.1 q h3).1.2.2.2.2.2.2.2.1 hG
  obtain rfl : c' = c := by omega
  have hgc : cH C c' = hg := by
    rcases t1.2.2.1 with u2 | ⟨c'', d1, d2, d3, d4, -⟩
    · omega
    · obtain rfl : c'' = c' := by omega
      exact d4
  have e8 : s = 3 → F u 158 < bxM := fun z => (t1.2.2.2.1 z).2.2.1
  unfold fb_M_one_468
  refine ok_bnd.mpr (ok_mono (chosen_ok (N := N) (mu := mu) (c := c') (by rw [t2, show c' + 1 - 1 = c' from by omega, hgc] at hq; rw [← hq, ← nc3]; exact i) hp.1 h2 t1 t3 h5 h6 ?_ (by omega)) (fun v _ hv => ok_some.mpr hv))
  obtain ⟨q1, q2, q3, q4⟩ := t5
  refine ⟨q1, q2, q3, ?_⟩
  by_cases es : s = 3
  · have := e8 es
    rw [if_pos es] at q4
    omega
  · rw [if_neg es] at q4
    omega
theorem i7 (e : ERX Fv P PR T C ND CN p u fr ro rn rh cb pc ct q n ow kd (ro (fr - 1) + tH T q) (rn (fr - 1) + rh (fr - 1) + tM T q) bxM mu) (hp : PGM Fv P PR T C pM pE ND CN PN SN UN FN u) (hq : tB T q + 1 ≤ tH T q) (hm : m < ND) (hx : NX T q m (tH T q) (tM T q)) (h98 : A u 98 (60 * p + (fr - 1)) = ((m : Nat) : Int)) (hN : 60000 ≤ N) : OK (fun v _ => RES Fv P PR T C ND CN p mu u v) (bnd (fm_M_take N u) (fun u27 r27 => bnd (fm_M_isTruth N u27 r27) (fun u28 r28 => br (decide (r28 = 0)) (bnd (fr_M_error N u28 11) (fun u29 _ => fb_M_otherRun_122 N () u29)) (bnd (fm_M_truth N u28 0) (fun u30 r30 => br (decide ((lg_cmp r27 r30) = 0)) (fb_M_otherRun_107 N () u30 (1)) (fb_M_otherRun_107 N () u30 (0))))))) := by
  have e' := e
  rw [show ro (fr - 1) + tH T q = ro (fr - 1) + (tH T q - 1) + 1 from by omega] at e'
  have hf := e.2.1.1
  have hro := (e.2.1.2.2.1 (fr - 1) (by omega)).2.2.2.2.1
  have hH := (hp.1.2.2.1 q e.2.2.1).1.1
  unfold fb_M_otherRun_122 fb_M_otherRun_107 fb_M_otherRun_122 fb_M_otherRun_328
  refine ok_bnd.mpr (ok_mono (takeE (N := N) e' (by omega)) (fun v r hv => ?_))
  obtain ⟨v1, v2, v3, v4⟩ := hv
  have back : ∀ x, RES Fv P PR T C ND CN p mu v x → RES Fv P PR T C ND CN p mu u x := fun x hx => RES.tr (FR.mo v3 (by decide) (by decide) (by decide) (by decide)) v4 (fun z _ => FR.A v3 (by decide)) hx (Nat.le_refl _)
  refine ok_bnd.mpr (ok_mono isTruth_ok (fun x r2 hx' => ?_))
  obtain ⟨x1, x2⟩ := hx'
  subst x1
  have pt : ∀ a : Int, 0 ≤ a ∧ a < 22 → OK (fun v _ => RES Fv P PR T C ND CN p mu u v) (bnd (fm_M_put N x (mk 1 a)) (fun u6 _ => some (u6, ()))) := fun a ha => ok_bnd.mpr (ok_mono (putR (N := N) v1 hm hx (by rw [FR.A v3 (by decide)]; exact h98) (by omega) rfl (GT_atom hp.2.1 ha) (by omega)) (fun y _ hy => ok_some.mpr (back y hy)))
  refine ok_br.mpr ⟨fun _ => ?_, fun _ => ?_⟩
  · exact ok_bnd.mpr (ok_mono (err_ok (N := N) (a := 11) v1 (PGM_fr hp v3 (by decide) (by decide)) (by omega) hN) (fun y _ hy => ok_some.mpr (back y hy)))
  · rw [truth0, bnd_so, truth1, bnd_so, truth0, bnd_so]
    exact ok_br.mpr ⟨fun _ => pt 0 (by omega), fun _ => pt 1 (by omega)⟩
end
end
section
section
variable {Fv : Int64 → Int64 → Prop} {P : Int64 → Prop} {u v w w2 : MS} {PR N p n n2 opM bnM bxM bx2 ND fr k tp mu CN PN SN UN FN rq q m h mm : Nat} {ow kd ow2 kd2 ro rn rh cb pc ct pM pE : Nat → Nat} {T : TY} {C : CY}
theorem GT_int {x : Int32} (hPB : PB P PR) : GT n ow kd P (mk 0 x.toInt) := Or.inl ⟨nh_mk (by omega), hPB.2.2.2.1 _ (ti_rng x).1 (ti_rng x).2⟩
theorem term0_e {x : Int32} : fm_M_term N u 0 x = some (u, mk 0 x.toInt) := by
  have := term_e (N := N) (u := u) (s := 0) (v := x.toInt)
  rw [← I_of x] at this
  exact this
theorem i8 (e : ERX Fv P PR T C ND CN p u fr ro rn rh cb pc ct q n ow kd (ro (fr - 1) + tH T q) (rn (fr - 1) + rh (fr - 1) + tM T q) bxM mu) (hp : PGM Fv P PR T C pM pE ND CN PN SN UN FN u) (hq : tB T q + 1 ≤ tH T q) (hm : m < ND) (hx : NX T q m (tH T q) (tM T q)) (h98 : A u 98 (60 * p + (fr - 1)) = ((m : Nat) : Int)) (hN : 60000 ≤ N) : OK (fun v _ => RES Fv P PR T C ND CN p mu u v) (bnd (fm_M_take N u) (fun u22 r22 => bnd (fm_M_sortOf N u22 r22) (fun u23 r23 => br (decide (r23 = 0)) (bnd (fm_M_valueOf N u23 r22) (fun u24 r24 => bnd (fm_M_valueOf N u24 r22) (fun u25 r25 => br (decide (r24 = (-r25))) (bnd (fm_M_valueOf N u25 r22) (fun u26 r26 => br (decide (r26 = 0)) (fb_M_otherRun_171 N () u26 (r22)) (fb_M_otherRun_162 N () u26))) (fb_M_otherRun_171 N () u25 (r22))))) (fb_M_otherRun_162 N () u23)))) := by
  have e' := e
  rw [show ro (fr - 1) + tH T q = ro (fr - 1) + (tH T q - 1) + 1 from by omega] at e'
  have hf := e.2.1.1
  have hro := (e.2.1.2.2.1 (fr - 1) (by omega)).2.2.2.2.1
  have hH := (hp.1.2.2.1 q e.2.2.1).1.1
  refine ok_bnd.mpr (ok_mono (takeE (N := N) e' (by omega)) (fun v r hv => ?_))
  obtain ⟨v1, v2, v3, v4⟩ := hv
  have back : ∀ x, RES Fv P PR T C ND CN p mu v x → RES Fv P PR T C ND CN p mu u x := fun x hx => RES.tr (FR.mo v3 (by decide) (by decide) (by decide) (by decide)) v4 (fun z _ => FR.A v3 (by decide)) hx (Nat.le_refl _)
  have no : OK (fun v _ => RES Fv P PR T C ND CN p mu u v) (fb_M_otherRun_162 N () v) := by
    unfold fb_M_otherRun_162 fb_M_otherRun_184 fb_M_otherRun_328
    exact ok_bnd.mpr (ok_mono (err_ok (N := N) (a := 12) v1 (PGM_fr hp v3 (by decide) (by decide)) (by omega) hN) (fun y _ hy => ok_some.mpr (back y hy)))
  have yes : OK (fun v _ => RES Fv P PR T C ND CN p mu u v) (fb_M_otherRun_171 N () v r) := by
    unfold fb_M_otherRun_171 fb_M_otherRun_184 fb_M_otherRun_328
    rw [valueOf_e, bnd_so, term0_e, bnd_so]
    exact ok_bnd.mpr (ok_mono (putR (N := N) v1 hm hx (by rw [FR.A v3 (by decide)]; exact h98) (by omega) rfl (GT_int hp.2.1) (by omega)) (fun y _ hy => ok_some.mpr (back y hy)))
  rw [sortOf_e, bnd_so, valueOf_e, bnd_so, valueOf_e, bnd_so, valueOf_e, bnd_so]
  exact ok_br.mpr ⟨fun _ => ok_br.mpr ⟨fun _ => ok_br.mpr ⟨fun _ => yes, fun _ => no⟩, fun _ => yes⟩, fun _ => no⟩
theorem i9 {a : Nat} {v2 : Int32} (e : ERX Fv P PR T C ND CN p u fr ro rn rh cb pc ct q n ow kd (ro (fr - 1) + tH T q) (rn (fr - 1) + rh (fr - 1) + tM T q) bxM mu) (hp : PGM Fv P PR T C pM pE ND CN PN SN UN FN u) (hq : tB T q + 1 ≤ tH T q) (hm : m < ND) (hx : NX T q m (tH T q - 1) (tM T q)) (h98 : A u 98 (60 * p + (fr - 1)) = ((m : Nat) : Int)) (ha : A u 25 q = a) (haN : a < ND) (hxa : NX T q a (tH T q) (tM T q)) (hN : 60000 ≤ N) : OK (fun v _ => RES Fv P PR T C ND CN p mu u v) (fb_M_otherRun_12 N () u (I q) v2) := by
  have e' := e
  rw [show ro (fr - 1) + tH T q = ro (fr - 1) + (tH T q - 1) + 1 from by omega] at e'
  have hf := e.2.1.1
  have q1 := e.2.2.1
  have nd := hp.1.1.1
  unfold fb_M_otherRun_12 fb_M_otherRun_71 fb_M_otherRun_328
  obtain ⟨t1, t2⟩ := top_ok (N := N) (k := 0) e.1 (by omega)
  rw [lit0q, show (0 : Int) = ((0 : Nat) : Int) from rfl, t1, bnd_so]
  have alt : ∀ (t : Int64) (b : Int32) (y : Int64), fm_M_truth N u b = some (u, y) → OK (fun v _ => RES Fv P PR T C ND CN p mu u v) (fb_M_otherRun_46 N () u (I q) t b) := fun t b y hy => by
    unfold fb_M_otherRun_46 fb_M_otherRun_71 fb_M_otherRun_328
    rw [hy, bnd_so]
    refine ok_br.mpr ⟨fun _ => ok_ck.mpr ⟨inb_at (k := 25) (n := 16000) rfl (by omega) (by omega) (by decide), ?_⟩, fun _ => ?_⟩
    · rw [I_tn (by omega) (by omega), Int.toNat_natCast, I_A' ha]
      exact ok_bnd.mpr (ok_mono (gotoR (N := N) e haN nd hxa rfl rfl) (fun y _ hy => ok_some.mpr hy))
    · refine ok_bnd.mpr (ok_mono (takeE (N := N) e' (by omega)) (fun v r hv => ok_some.mpr ?_))
      obtain ⟨v1, v2, v3, v4⟩ := hv
      exact nxtR e hm hx v3 (by decide) (by decide) (by decide) h98 v1.1 (FR.mo v3 (by decide) (by decide) (by decide) (by decide)) v4
  refine ok_bnd.mpr (ok_mono isTruth_ok (fun x r2 hx' => ?_))
  obtain ⟨x1, x2⟩ := hx'
  subst x1
  refine ok_br.mpr ⟨fun _ => ?_, fun _ => ok_br.mpr ⟨fun _ => alt _ _ _ truth1, fun _ => alt _ _ _ truth0⟩⟩
  exact ok_bnd.mpr (ok_mono (err_ok (N := N) (a := 11) e hp (by omega) hN) (fun y _ hy => ok_some.mpr hy))
theorem i16 {m2 : Nat} (e : ERX Fv P PR T C ND CN p u fr ro rn rh cb pc ct q n ow kd (ro (fr - 1) + tH T q) (rn (fr - 1) + rh (fr - 1) + tM T q) bxM mu) (hp : PGM Fv P PR T C pM pE ND CN PN SN UN FN u) (hq : tB T q + 1 ≤ tH T q) (hm : m < ND) (hpat : PAT u pM pE PN SN (tL T q) (tM T q) m2 (A u 25 q)) (hx : NX T q m (tH T q) m2) (h98 : A u 98 (60 * p + (fr - 1)) = ((m : Nat) : Int)) (hN : 60000 ≤ N) : OK (fun v _ => RES Fv P PR T C ND CN p mu u v) (ck (inb (u.1 133) (ln 94)) (lt (u.2.2.1 94 (u.1 133).toNatClampNeg) (fun y13 => ck (inb (I q) (ln 25)) (bnd (fm_M_top N u 0) (fun u14 r14 => bnd (fm_M_fits N u14 (u.2.2.1 25 (I q).toNatClampNeg) r14) (fun u15 r15 => br (decide (r15 = 0)) (ck (inb (u15.1 133) (ln 94)) (lt (upA u15 94 (upd (u15.2.2.1 94) (u15.1 133).toNatClampNeg y13)) (fun w16 => bnd (fm_M_top N w16 0) (fun u17 r17 => bnd (fr_M_errorOf N u17 13 r17) (fun u18 _ => fb_M_one_400 N () u18))))) (fb_M_one_400 N () u15))))))) := by
  have i := e.1
  have x4 := MEI_p i
  have hf := e.2.1.1
  have q1 := e.2.2.1
  have nd := hp.1.1.1
  have hl := e.2.2.2.1
  have hro := (e.2.1.2.2.1 (fr - 1) (by omega))
  have hMq := (hp.1.2.2.1 q q1).1.2.1
  obtain ⟨qq, pM, pE, p1, p2, p3, p4, p5, p6, p7⟩ := hpat
  have hM2 : m2 + tL T q ≤ 40 := by have := (hp.1.2.2.1 m hm).1.2.1; obtain ⟨-, z2, z3, -⟩ := hx; omega
  have hb94 : A u 94 p = ((rn (fr - 1) + rh (fr - 1) + tM T q : Nat) : Int) := i.2.2.2.2.2.2.2.2.2.2.1.1
  unfold fb_M_one_400 fb_M_one_468
  rw [I_F' i.2.2.1]
  refine ok_ck.mpr ⟨inb_at (k := 94) (n := 24) rfl (by omega) (by omega) (by decide), ok_lt.mpr (ok_ck.mpr ⟨inb_at (k := 25) (n := 16000) rfl (by omega) (by omega) (by decide), ?_⟩)⟩
  obtain ⟨t1, t2⟩ := top_ok (N := N) (k := 0) i (by omega)
  rw [lit0q, show (0 : Int) = ((0 : Nat) : Int) from rfl, t1, bnd_so, I_tn (x := (q : Int)) (by omega) (by omega), Int.toNat_natCast, I_tn (x := (p : Int)) (by omega) (by omega), Int.toNat_natCast, I_A' p1, I_A' hb94]
  refine ok_bnd.mpr (ok_mono (fits_ok (N := N) (q := qq) (e := pE qq) (pM := pM) (pE := pE) (PN := PN) (SN := SN) (fr := fr) (rn := rn (fr - 1)) (rh := rh (fr - 1)) i hp.1.1.2.2.1 p3 rfl p2 (by rw [hl]; exact p7) hp.2.2.1 hp.2.2.2.1 hp.2.2.2.2 hp.1.2.1 ⟨hf.2.2, hf.1, hf.2.1, hro.2.1, hro.2.2.1⟩ (fun k h1 h2 => by have := p6 k h1 h2; omega) (by rw [p4]) t2 (by omega)) (fun v r hv => ?_))
  obtain ⟨v1, v2⟩ := hv
  have f1 := v1.1
  have o1 : OTF p u v := ⟨fun z hz => ⟨FR.A f1 (by decide), v1.2 z hz, FR.A f1 (by decide), FR.A f1 (by decide)⟩, fun j _ => ⟨FR.A f1 (by decide), FR.A f1 (by decide), FR.A f1 (by decide), FR.A f1 (by decide)⟩, fun j _ => ⟨FR.A f1 (by decide), FR.A f1 (by decide), FR.A f1 (by decide), FR.A f1 (by decide)⟩, OTF_9 f1 (by decide)⟩
  refine ok_br.mpr ⟨fun z0 => ?_, fun z0 => ?_⟩
  · obtain ⟨b2, y3, c2, y4, y5, y6⟩ : ∃ b2, MEI Fv P PR v p n ow kd (ro (fr - 1) + tH T q) b2 bxM ∧ ∃ c2, qq ≤ c2 ∧ c2 ≤ pE qq ∧ b2 = rn (fr - 1) + rh (fr - 1) + pM c2 := by
      rcases v2 with ⟨y2, -⟩ | ⟨-, y3⟩
      · exfalso; rw [y2] at z0; exact absurd (of_decide_eq_true z0) (by decide)
      · exact y3
    have mono := pM_mono p7 (c2 - qq) (by omega)
    rw [show qq + (c2 - qq) = c2 from by omega] at mono
    rw [I_F' y3.2.2.1]
    refine ok_ck.mpr ⟨inb_at (k := 94) (n := 24) rfl (by omega) (by omega) (by decide), ok_lt.mpr ?_⟩
    rw [I_tn (x := (p : Int)) (by omega) (by omega), Int.toNat_natCast, wa_e]
    have f2 : FR [] [] [94] [] v (wa v 94 p ((rn (fr - 1) + rh (fr - 1) + tM T q : Nat) : Int)) := FR.wa FR.rf (by decide)
    have o2 : OTF p v (wa v 94 p ((rn (fr - 1) + rh (fr - 1) + tM T q : Nat) : Int)) := OTF_at f2 (i0 := p) (fun j hj => by rw [A_eq (by omega) (by omega), if_neg hj]) (Or.inl ⟨by decide, rfl⟩)
    have i2 := names_less y3 (k := rn (fr - 1) + rh (fr - 1) + tM T q) (by omega)
    generalize wa v 94 p ((rn (fr - 1) + rh (fr - 1) + tM T q : Nat) : Int) = w3 at *
    have f3 : FR [] [] [94, 160, 162] [93, 141, 161, 163] u w3 := FR.tr f1 (FR.mo f2 (by decide) (by decide) (by decide) (by decide))
    have e3 := ERX_fr e f3 (by decide) (by decide) (by decide) i2 (by have := (hp.1.2.2.1 q q1).1.2.2.2.1; omega) (Nat.le_refl _)
    obtain ⟨t3, t4⟩ := top_ok (N := N) (k := 0) i2 (by omega)
    rw [t3, bnd_so]
    exact ok_bnd.mpr (ok_mono (errOf_ok (N := N) (a := 13) e3 (PGM_fr hp f3 (by decide) (by decide)) t4 (by omega) hN) (fun y _ hy => ok_some.mpr (RES.tr (FR.mo f3 (by decide) (by decide) (by decide) (by decide)) (OTF.tr o1 o2) (fun z _ => FR.A f3 (by decide)) hy (Nat.le_refl _))))
  · have y3 : MEI Fv P PR v p n ow kd (ro (fr - 1) + tH T q) (rn (fr - 1) + rh (fr - 1) + pM (pE qq)) bxM := by
      rcases v2 with ⟨-, y3⟩ | ⟨y2, -⟩
      · exact y3
      · exact absurd y2 (of_decide_eq_false z0)
    rw [p5] at y3
    exact ok_some.mpr (nxtR e hm hx f1 (by decide) (by decide) (by decide) h98 y3 (FR.mo f1 (by decide) (by decide) (by decide) (by decide)) o1)
end
end
section
section
variable {Fv : Int64 → Int64 → Prop} {P : Int64 → Prop} {u v w w2 : MS} {PR N p n n2 opM bnM bxM bx2 ND fr k tp mu CN PN SN UN FN rq q m h mm : Nat} {ow kd ow2 kd2 ro rn rh cb pc ct pM pE : Nat → Nat} {T : TY} {C : CY}
theorem cb_le (h : FRS w T ND p fr ro rn rh cb pc ct k tp) {i : Nat} (hi : i + 1 < fr) : cb i + tK T (pc i) ≤ cb (fr - 1) := by
  have := ro_mono h (fr - 1 - (i + 1)) (i + 1) (by omega)
  rw [show i + 1 + (fr - 1 - (i + 1)) = fr - 1 from by omega] at this
  have := (h.2.2.2.1 i hi).2.2.2.2.2.2.2.1
  omega
theorem FRS_push {is ls as js : List Nat} (h : FRS w T ND p fr ro rn rh cb pc ct (tK T q) (tC T q)) (f : FR is ls as js w w2) (ha : ∀ k, k ∈ [23, 95, 98, 99, 100, 101] → k ∉ as) (hp : p < 24) (hk : tK T q ≤ 26) (hq : q < ND) (h23 : A w 23 q = 19) (hl : rh (fr - 1) = tL T q)
    (h102 : ∀ j, A w2 102 j = if j = 1600 * p + (cb (fr - 1) + tK T q) then ((fr - 1 : Nat) : Int) else A w 102 j) (h103 : ∀ j, A w2 103 j = if j = 1600 * p + (cb (fr - 1) + tK T q) then ((q : Nat) : Int) else A w 103 j) (h104 : ∀ j, A w2 104 j = if j = 1600 * p + (cb (fr - 1) + tK T q) then ((ro (fr - 1) + tH T q : Nat) : Int) else A w 104 j) (h105 : ∀ j, A w2 105 j = if j = 1600 * p + (cb (fr - 1) + tK T q) then ((rn (fr - 1) + rh (fr - 1) + tM T q : Nat) : Int) else A w 105 j) :
    FRS w2 T ND p fr ro rn rh cb pc (fun x => if x = cb (fr - 1) + tK T q then q else ct x) (tK T q + 1) q := by
  have h0 := h
  obtain ⟨⟨q1, q2, q3⟩, z, h5, h6, h7⟩ := h
  have cti : ∀ (i c0 kk tt a1 a2 a3 : Nat), c0 + kk ≤ cb (fr - 1) + tK T q → CTI w T ND p ct i c0 kk tt a1 a2 a3 → CTI w2 T ND p (fun x => if x = cb (fr - 1) + tK T q then q else ct x) i c0 kk tt a1 a2 a3 := fun i c0 kk tt a1 a2 a3 hle hc j hj => by
    obtain ⟨y1, y2, y3, y4, y5, y6, y8, y9, y10, y11⟩ := hc j hj
    have ne : c0 + j ≠ cb (fr - 1) + tK T q := by omega
    have ne2 : 1600 * p + (c0 + j) ≠ 1600 * p + (cb (fr - 1) + tK T q) := by omega
    simp only [if_neg ne]
    refine ⟨by rw [h102, if_neg ne2]; exact y1, by rw [h103, if_neg ne2]; exact y2, y3, by rw [FR.A f (ha _ (by decide))]; exact y4, y5, y6, by rw [h104, if_neg ne2]; exact y8, by rw [h105, if_neg ne2]; exact y9, y10, fun mm hmm => ?_⟩
    rw [if_neg (by omega)]; exact y11 mm hmm
  refine ⟨⟨q1, q2, by rw [FR.A f (ha _ (by decide))]; exact q3⟩, z, fun i hi => by rw [FR.A f (ha _ (by decide)), FR.A f (ha _ (by decide)), FR.A f (ha _ (by decide))]; exact h5 i hi, fun i hi => ?_, fun j hj => ?_⟩
  · obtain ⟨r1, r2, r3, r4, r5, r6, r7, r8, r9⟩ := h6 i hi
    exact ⟨by rw [FR.A f (ha _ (by decide))]; exact r1, r2, r3, r4, r5, r6, r7, r8, cti _ _ _ _ _ _ _ (by have := cb_le h0 hi; omega) r9⟩
  · by_cases e : j = tK T q
    · subst e
      have e0 : (fun x => if x = cb (fr - 1) + tK T q then q else ct x) (cb (fr - 1) + tK T q) = q := if_pos rfl
      rw [e0]
      refine ⟨by rw [h102, if_pos rfl], by rw [h103, if_pos rfl], hq, by rw [FR.A f (ha _ (by decide))]; exact h23, rfl, hl.symm, by rw [h104, if_pos rfl], by rw [h105, if_pos rfl], fun _ => rfl, fun mm hmm => ?_⟩
      show (if cb (fr - 1) + mm = cb (fr - 1) + tK T q then q else ct (cb (fr - 1) + mm)) = _
      rw [if_neg (by omega)]
      exact (h7 mm (by omega)).2.2.2.2.2.2.2.2.1 hmm
    · obtain ⟨y1, y2, y3, y4, y5, y6, y8, y9, y10, y11⟩ := cti _ _ _ _ _ _ _ (Nat.le_refl _) h7 j (by omega)
      exact ⟨y1, y2, y3, y4, y5, y6, y8, y9, fun z => by omega, y11⟩
theorem FRS_pop {is ls as js : List Nat} (h : FRS w T ND p fr ro rn rh cb pc ct (tK T q) (tC T q)) (f : FR is ls as js w w2) (ha : ∀ k, k ∈ [23, 95, 98, 99, 100, 101, 102, 103, 104, 105] → k ∉ as) (hk : 1 ≤ tK T q) (hc : 1 < tK T q → tp = tC T (tC T q)) : FRS w2 T ND p fr ro rn rh cb pc ct (tK T q - 1) tp := by
  have h2 := FRS_98 h f (fun k hk => ha k (by revert hk; simp; omega)) (fun j _ => FR.A f (ha _ (by decide)))
  obtain ⟨q1, z, h5, h6, h7⟩ := h2
  refine ⟨q1, z, h5, h6, fun j hj => ?_⟩
  obtain ⟨y1, y2, y3, y4, y5, y6, y8, y9, y10, y11⟩ := h7 j (by omega)
  refine ⟨y1, y2, y3, y4, y5, y6, y8, y9, fun e => ?_, y11⟩
  obtain ⟨-, -, -, -, -, -, -, -, x10, x11⟩ := h7 (tK T q - 1) (by omega)
  rw [x11 j (by omega), x10 (by omega), hc (by omega)]
theorem catch_next {is ls as js : List Nat} (e : ERX Fv P PR T C ND CN p u fr ro rn rh cb pc ct q n ow kd (ro (fr - 1) + tH T q) (rn (fr - 1) + rh (fr - 1) + tM T q) bxM mu) (hG : tG T q = 0) (hm : m < ND) (h1 : tH T m = tH T q) (h2 : tM T m = tM T q) (h3 : tL T m = tL T q) (h4 : tG T m = 0) (h5 : tR T m < tR T q) (f : FR is ls as js u v) (hi : ∀ k, k ∈ [152, 164, 165] → k ∉ is) (h98 : A v 98 (60 * p + (fr - 1)) = ((m : Nat) : Int)) (h109 : A v 109 p = 0) (i : MEI Fv P PR v p n ow kd (ro (fr - 1) + tH T q) (rn (fr - 1) + rh (fr - 1) + tM T q) bxM) {ct2 : Nat → Nat} (hf : FRS v T ND p fr ro rn rh cb pc ct2 (tK T m) (tC T m)) (h106 : A v 106 p = ((cb (fr - 1) + tK T m : Nat) : Int)) : ∃ m2, m2 < mu ∧ STE Fv P PR T C ND CN p m2 v := by
  obtain ⟨-, -, e3, e4, -, -, -, -, e9⟩ := e
  obtain ⟨y2, y3⟩ : F u 152 = 0 ∧ CLG u (sR T pc (fr - 1) + tR T q) 0 mu := by
    rcases e9 with ⟨-, y⟩ | ⟨-, c, s, many, hg', hb', mm', r, t1, t2, -⟩
    · exact y
    · omega
  obtain ⟨c1, c2, c3, c4⟩ := y3
  refine ⟨mu - 1, by omega, fr, ro, rn, rh, cb, pc, ct2, m, n, ow, kd, bxM, ⟨by rw [h1, h2]; exact i, hf, h98, hm, by rw [h3]; exact e4, h106⟩, h109, Or.inl ⟨h4, by rw [FR.F f (hi _ (by decide))]; exact y2, ?_⟩⟩
  unfold CLG
  rw [FR.F f (hi _ (by decide)), FR.F f (hi _ (by decide))]
  exact ⟨c1, c2, c3, by omega⟩
end
end
section
section
variable {Fv : Int64 → Int64 → Prop} {P : Int64 → Prop} {u v w w2 : MS} {PR N p n n2 opM bnM bxM bx2 ND fr k tp mu CN PN SN UN FN rq q m h mm : Nat} {ow kd ow2 kd2 ro rn rh cb pc ct pM pE : Nat → Nat} {T : TY} {C : CY}
theorem i20 (e : ERX Fv P PR T C ND CN p u fr ro rn rh cb pc ct q n ow kd (ro (fr - 1) + tH T q) (rn (fr - 1) + rh (fr - 1) + tM T q) bxM mu) (hG : tG T q = 0) (hk : 1 ≤ tK T q) (hk26 : tK T q ≤ 26) (hm : m < ND) (h1 : tH T m = tH T q) (h2 : tM T m = tM T q) (h3 : tL T m = tL T q) (h4 : tG T m = 0) (hkm : tK T m = tK T q - 1) (hcm : 1 < tK T q → tC T m = tC T (tC T q)) (h5 : tR T m < tR T q) (h98 : A u 98 (60 * p + (fr - 1)) = ((m : Nat) : Int)) : OK (fun v _ => RES Fv P PR T C ND CN p mu u v) (ck (inb (u.1 133) (ln 106)) (ck (inb (u.1 133) (ln 106)) (lt (upA u 106 (upd (u.2.2.1 106) (u.1 133).toNatClampNeg ((u.2.2.1 106 (u.1 133).toNatClampNeg) - 1))) (fun w14 => fb_M_otherRun_328 N () w14)))) := by
  have i := e.1
  have x4 := MEI_p i
  have hf := e.2.1.1
  have hro := (e.2.1.2.2.1 (fr - 1) (by omega))
  unfold fb_M_otherRun_328
  rw [I_F' i.2.2.1]
  refine ok_ck.mpr ⟨inb_at (k := 106) (n := 24) rfl (by omega) (by omega) (by decide), ok_ck.mpr ⟨inb_at (k := 106) (n := 24) rfl (by omega) (by omega) (by decide), ok_lt.mpr ?_⟩⟩
  rw [I_tn (x := (p : Int)) (by omega) (by omega), Int.toNat_natCast, I_A' e.2.2.2.2.1, lit1q, I_sub, show ((cb (fr - 1) + tK T q : Nat) : Int) - 1 = ((cb (fr - 1) + tK T m : Nat) : Int) from by omega, wa_e]
  have f : FR [] [] [106] [] u (wa u 106 p ((cb (fr - 1) + tK T m : Nat) : Int)) := FR.wa FR.rf (by decide)
  have e6 : ∀ j, A (wa u 106 p ((cb (fr - 1) + tK T m : Nat) : Int)) 106 j = if j = p then ((cb (fr - 1) + tK T m : Nat) : Int) else A u 106 j := fun j => A_eq (by omega) (by omega)
  have i2 := MEI_fr i f (by decide) (by decide) (by decide) (by decide) (by decide) (by decide) (by decide) (by decide) (by decide) (by decide) (by decide) (by decide) (by decide) (by decide) (by decide) (by decide) (by decide) (by decide)
  generalize wa u 106 p ((cb (fr - 1) + tK T m : Nat) : Int) = v at *
  have hfr := FRS_pop (tp := tC T m) e.2.1 f (by decide) hk hcm
  rw [← hkm] at hfr
  exact ok_some.mpr ⟨Or.inr (Or.inr (catch_next e hG hm h1 h2 h3 h4 h5 f (by decide) (by rw [FR.A f (by decide)]; exact h98) (by rw [FR.A f (by decide)]; exact e.2.2.2.2.2.1) i2 hfr (by rw [e6, if_pos rfl]))), Or.inl (FR.mo f (by decide) (by decide) (by decide) (by decide)), OTF_at f (i0 := p) (fun j hj => by rw [e6, if_neg hj]) (Or.inl ⟨by decide, rfl⟩), fun z _ => FR.A f (by decide)⟩
theorem i19 (e : ERX Fv P PR T C ND CN p u fr ro rn rh cb pc ct q n ow kd (ro (fr - 1) + tH T q) (rn (fr - 1) + rh (fr - 1) + tM T q) bxM mu) (hp : PGM Fv P PR T C pM pE ND CN PN SN UN FN u) (h23 : A u 23 q = 19) (h98 : A u 98 (60 * p + (fr - 1)) = ((q + 1 : Nat) : Int)) : OK (fun v _ => RES Fv P PR T C ND CN p mu u v) (ck (inb (u.1 133) (ln 106)) (lt (((u.1 133) * 1600) + (u.2.2.1 106 (u.1 133).toNatClampNeg)) (fun y15 => ck (inb (u.1 133) (ln 95)) (ck (inb y15 (ln 102)) (lt (upA u 102 (upd (u.2.2.1 102) y15.toNatClampNeg ((u.2.2.1 95 (u.1 133).toNatClampNeg) - 1))) (fun w16 => ck (inb y15 (ln 103)) (lt (upA w16 103 (upd (w16.2.2.1 103) y15.toNatClampNeg (I q))) (fun w17 => ck (inb (w17.1 133) (ln 92)) (ck (inb y15 (ln 104)) (lt (upA w17 104 (upd (w17.2.2.1 104) y15.toNatClampNeg (w17.2.2.1 92 (w17.1 133).toNatClampNeg))) (fun w18 => ck (inb (w18.1 133) (ln 94)) (ck (inb y15 (ln 105)) (lt (upA w18 105 (upd (w18.2.2.1 105) y15.toNatClampNeg (w18.2.2.1 94 (w18.1 133).toNatClampNeg))) (fun w19 => ck (inb (w19.1 133) (ln 106)) (ck (inb (w19.1 133) (ln 106)) (lt (upA w19 106 (upd (w19.2.2.1 106) (w19.1 133).toNatClampNeg ((w19.2.2.1 106 (w19.1 133).toNatClampNeg) + 1))) (fun w20 => fb_M_otherRun_328 N () w20))))))))))))))))) := by
  have i := e.1
  have x4 := MEI_p i
  have hf := e.2.1.1
  have q1 := e.2.2.1
  have nd := hp.1.1.1
  have hro := (e.2.1.2.2.1 (fr - 1) (by omega))
  obtain ⟨n1, n2, n3, -⟩ := (hp.1.2.2.1 q q1).1
  obtain ⟨g0, g1, g2, g3, g4, g5, g6, g7, g8, g9, -⟩ := PRG_19 hp.1 q1 h23
  have hm : q + 1 < ND := (hp.1.2.2.1 q q1).1.2.2.2.2.2.2.2.2.2.2.2.2.1 (by rw [h23]; decide)
  have p92 : A u 92 p = ((ro (fr - 1) + tH T q : Nat) : Int) := i.2.2.2.2.2.2.2.2.2.1.1
  have p94 : A u 94 p = ((rn (fr - 1) + rh (fr - 1) + tM T q : Nat) : Int) := i.2.2.2.2.2.2.2.2.2.2.1.1
  have hc : cb (fr - 1) + tK T q < 1600 := by omega
  generalize hcc : cb (fr - 1) + tK T q = c at *
  have p106 : A u 106 p = (c : Int) := e.2.2.2.2.1.trans (by rw [hcc])
  unfold fb_M_otherRun_328
  rw [I_F' i.2.2.1, I_tn (x := (p : Int)) (by omega) (by omega), Int.toNat_natCast, I_A' p106, show (1600 : Int32) = I 1600 from rfl, I_mul, I_add, show (p : Int) * 1600 + (c : Int) = ((1600 * p + c : Nat) : Int) from by omega]
  refine ok_ck.mpr ⟨inb_at (k := 106) (n := 24) rfl (by omega) (by omega) (by decide), ok_lt.mpr (ok_ck.mpr ⟨inb_at (k := 95) (n := 24) rfl (by omega) (by omega) (by decide), ok_ck.mpr ⟨inb_at (k := 102) (n := 38400) rfl (by omega) (by omega) (by decide), ok_lt.mpr ?_⟩⟩)⟩
  rw [I_tn (x := ((1600 * p + c : Nat) : Int)) (by omega) (by omega), Int.toNat_natCast, I_A' hf.2.2, lit1q, I_sub, show (fr : Int) - 1 = ((fr - 1 : Nat) : Int) from by omega, wa_e (k := 102)]
  have f2 : FR [] [] [102] [] u (wa u 102 (1600 * p + c) ((fr - 1 : Nat) : Int)) := FR.wa FR.rf (by decide)
  have e2 : ∀ j, A (wa u 102 (1600 * p + c) ((fr - 1 : Nat) : Int)) 102 j = if j = 1600 * p + c then ((fr - 1 : Nat) : Int) else A u 102 j := fun j => A_eq (by omega) (by omega)
  generalize wa u 102 (1600 * p + c) ((fr - 1 : Nat) : Int) = v2 at *
  refine ok_ck.mpr ⟨inb_at (k := 103) (n := 38400) rfl (by omega) (by omega) (by decide), ok_lt.mpr ?_⟩
  rw [wa_e (k := 103)]
  have f3 : FR [] [] [102, 103] [] u (wa v2 103 (1600 * p + c) q) := FR.wa (FR.mo f2 (by decide) (by decide) (by decide) (by decide)) (by decide)
  have e3 : ∀ j, A (wa v2 103 (1600 * p + c) q) 103 j = if j = 1600 * p + c then (q : Int) else A u 103 j := fun j => by rw [A_eq (by omega) (by omega), FR.A f2 (by decide)]
  have e32 : ∀ j, A (wa v2 103 (1600 * p + c) q) 102 j = if j = 1600 * p + c then ((fr - 1 : Nat) : Int) else A u 102 j := fun j => by rw [A_ne (by decide), e2]
  generalize wa v2 103 (1600 * p + c) q = v3 at *
  rw [I_F' (show F v3 133 = p by rw [FR.F f3 (by decide)]; exact i.2.2.1)]
  refine ok_ck.mpr ⟨inb_at (k := 92) (n := 24) rfl (by omega) (by omega) (by decide), ok_ck.mpr ⟨inb_at (k := 104) (n := 38400) rfl (by omega) (by omega) (by decide), ok_lt.mpr ?_⟩⟩
  rw [I_tn (x := (p : Int)) (by omega) (by omega), Int.toNat_natCast, I_A' (show A v3 92 p = ((ro (fr - 1) + tH T q : Nat) : Int) by rw [FR.A f3 (by decide)]; exact p92), wa_e (k := 104)]
  have f4 : FR [] [] [102, 103, 104] [] u (wa v3 104 (1600 * p + c) ((ro (fr - 1) + tH T q : Nat) : Int)) := FR.wa (FR.mo f3 (by decide) (by decide) (by decide) (by decide)) (by decide)
  have e4 : ∀ j, A (wa v3 104 (1600 * p + c) ((ro (fr - 1) + tH T q : Nat) : Int)) 104 j = if j = 1600 * p + c then ((ro (fr - 1) + tH T q : Nat) : Int) else A u 104 j := fun j => by rw [A_eq (by omega) (by omega), FR.A f3 (by decide)]
  have e42 : ∀ j, A (wa v3 104 (1600 * p + c) ((ro (fr - 1) + tH T q : Nat) : Int)) 102 j = if j = 1600 * p + c then ((fr - 1 : Nat) : Int) else A u 102 j := fun j => by rw [A_ne (by decide), e32]
  have e43 : ∀ j, A (wa v3 104 (1600 * p + c) ((ro (fr - 1) + tH T q : Nat) : Int)) 103 j = if j = 1600 * p + c then (q : Int) else A u 103 j := fun j => by rw [A_ne (by decide), e3]
  generalize wa v3 104 (1600 * p + c) ((ro (fr - 1) + tH T q : Nat) : Int) = v4 at *
  rw [I_F' (show F v4 133 = p by rw [FR.F f4 (by decide)]; exact i.2.2.1)]
  refine ok_ck.mpr ⟨inb_at (k := 94) (n := 24) rfl (by omega) (by omega) (by decide), ok_ck.mpr ⟨inb_at (k := 105) (n := 38400) rfl (by omega) (by omega) (by decide), ok_lt.mpr ?_⟩⟩
  rw [I_tn (x := (p : Int)) (by omega) (by omega), Int.toNat_natCast, I_A' (show A v4 94 p = ((rn (fr - 1) + rh (fr - 1) + tM T q : Nat) : Int) by rw [FR.A f4 (by decide)]; exact p94), wa_e (k := 105)]
  have f5 : FR [] [] [102, 103, 104, 105] [] u (wa v4 105 (1600 * p + c) ((rn (fr - 1) + rh (fr - 1) + tM T q : Nat) : Int)) := FR.wa (FR.mo f4 (by decide) (by decide) (by decide) (by decide)) (by decide)
  have e5 : ∀ j, A (wa v4 105 (1600 * p + c) ((rn (fr - 1) + rh (fr - 1) + tM T q : Nat) : Int)) 105 j = if j = 1600 * p + c then ((rn (fr - 1) + rh (fr - 1) + tM T q : Nat) : Int) else A u 105 j := fun j => by rw [A_eq (by omega) (by omega), FR.A f4 (by decide)]
  have e52 : ∀ j, A (wa v4 105 (1600 * p + c) ((rn (fr - 1) + rh (fr - 1) + tM T q : Nat) : Int)) 102 j = if j = 1600 * p + c then ((fr - 1 : Nat) : Int) else A u 102 j := fun j => by rw [A_ne (by decide), e42]
  have e53 : ∀ j, A (wa v4 105 (1600 * p + c) ((rn (fr - 1) + rh (fr - 1) + tM T q : Nat) : Int)) 103 j = if j = 1600 * p + c then (q : Int) else A u 103 j := fun j => by rw [A_ne (by decide), e43]
  have e54 : ∀ j, A (wa v4 105 (1600 * p + c) ((rn (fr - 1) + rh (fr - 1) + tM T q : Nat) : Int)) 104 j = if j = 1600 * p + c then ((ro (fr - 1) + tH T q : Nat) : Int) else A u 104 j := fun j => by rw [A_ne (by decide), e4]
  generalize wa v4 105 (1600 * p + c) ((rn (fr - 1) + rh (fr - 1) + tM T q : Nat) : Int) = v5 at *
  rw [I_F' (show F v5 133 = p by rw [FR.F f5 (by decide)]; exact i.2.2.1)]
  refine ok_ck.mpr ⟨inb_at (k := 106) (n := 24) rfl (by omega) (by omega) (by decide), ok_ck.mpr ⟨inb_at (k := 106) (n := 24) rfl (by omega) (by omega) (by decide), ok_lt.mpr ?_⟩⟩
  rw [I_tn (x := (p : Int)) (by omega) (by omega), Int.toNat_natCast, I_A' (show A v5 106 p = (c : Int) by rw [FR.A f5 (by decide)]; exact p106), I_add, wa_e (k := 106)]
  have f6 : FR [] [] [102, 103, 104, 105, 106] [] u (wa v5 106 p ((c : Int) + 1)) := FR.wa (FR.mo f5 (by decide) (by decide) (by decide) (by decide)) (by decide)
  have e6 : ∀ j, A (wa v5 106 p ((c : Int) + 1)) 106 j = if j = p then (c : Int) + 1 else A u 106 j := fun j => by rw [A_eq (by omega) (by omega), FR.A f5 (by decide)]
  have e62 : ∀ j, A (wa v5 106 p ((c : Int) + 1)) 102 j = if j = 1600 * p + c then ((fr - 1 : Nat) : Int) else A u 102 j := fun j => by rw [A_ne (by decide), e52]
  have e63 : ∀ j, A (wa v5 106 p ((c : Int) + 1)) 103 j = if j = 1600 * p + c then (q : Int) else A u 103 j := fun j => by rw [A_ne (by decide), e53]
  have e64 : ∀ j, A (wa v5 106 p ((c : Int) + 1)) 104 j = if j = 1600 * p + c then ((ro (fr - 1) + tH T q : Nat) : Int) else A u 104 j := fun j => by rw [A_ne (by decide), e54]
  have e65 : ∀ j, A (wa v5 106 p ((c : Int) + 1)) 105 j = if j = 1600 * p + c then ((rn (fr - 1) + rh (fr - 1) + tM T q : Nat) : Int) else A u 105 j := fun j => by rw [A_ne (by decide), e5]
  generalize wa v5 106 p ((c : Int) + 1) = v6 at *
  have i6 := MEI_fr i f6 (by decide) (by decide) (by decide) (by decide) (by decide) (by decide) (by decide) (by decide) (by decide) (by decide) (by decide) (by decide) (by decide) (by decide) (by decide) (by decide) (by decide) (by decide)
  have hfr := FRS_push e.2.1 f6 (by decide) x4 n3 q1 h23 e.2.2.2.1 (by rw [hcc]; exact e62) (by rw [hcc]; exact e63) (by rw [hcc]; exact e64) (by rw [hcc]; exact e65)
  have hfr2 : FRS v6 T ND p fr ro rn rh cb pc (fun x => if x = cb (fr - 1) + tK T q then q else ct x) (tK T (q + 1)) (tC T (q + 1)) := by rw [g4, g8]; exact hfr
  refine ok_some.mpr ⟨Or.inr (Or.inr (catch_next e g0 hm g1 g2 g3 g5 g9 f6 (by decide) (by rw [FR.A f6 (by decide)]; exact h98) (by rw [FR.A f6 (by decide)]; exact e.2.2.2.2.2.1) i6 hfr2 (by rw [e6, if_pos rfl, g4]; omega))), Or.inl (FR.mo f6 (by decide) (by decide) (by decide) (by decide)), ?_, fun z _ => FR.A f6 (by decide)⟩
  exact ⟨fun z hz => ⟨FR.A f6 (by decide), FR.A f6 (by decide), FR.A f6 (by decide), by rw [e6, if_neg hz]⟩, fun j _ => ⟨FR.A f6 (by decide), FR.A f6 (by decide), FR.A f6 (by decide), FR.A f6 (by decide)⟩, fun j hj => ⟨by rw [e62, if_neg (by omega)], by rw [e63, if_neg (by omega)], by rw [e64, if_neg (by omega)], by rw [e65, if_neg (by omega)]⟩, OTF_9 f6 (by decide)⟩
end
end
section
section
variable {Fv : Int64 → Int64 → Prop} {P : Int64 → Prop} {u v w w2 : MS} {PR N p n n2 opM bnM bxM bx2 ND fr k tp mu CN PN SN UN FN rq q m h mm : Nat} {ow kd ow2 kd2 ro rn rh cb pc ct pM pE : Nat → Nat} {T : TY} {C : CY}
theorem cls_tp {many hg hb m r c : Nat} (hg' : PRG w T C pM pE ND CN PN SN UN FN) (ht : CLS C w CN many hg hb m (rh (fr - 1)) k tp r ((c : Nat) : Int)) (hk : 0 < k) : ∃ a : Nat, A w 25 tp = a ∧ tR T a < r := by
  obtain ⟨-, -, -, -, -, -, -, ⟨b, b1, b2, b3, b4, b5, b6, b7, b8, b9⟩, -⟩ := cls_c (s := 0) hg' ht
  obtain ⟨-, -, -, -, -, -, n7, -⟩ := (hg'.2.2.1 b b2).1
  obtain ⟨-, -, -, -, -, -, a, s7, s8⟩ := n7 (by omega)
  rw [b8] at s7
  exact ⟨a, s7, by omega⟩
theorem tryFrom_ok {s many hg hb m r b c : Nat} (hp : PGM Fv P PR T C pM pE ND CN PN SN UN FN w) (h : FRS w T ND p fr ro rn rh cb pc ct k tp) (h106 : A w 106 p = ((cb (fr - 1) + k : Nat) : Int)) (h109 : A w 109 p = 0) (h152 : F w 152 = 0) (i : MEI Fv P PR w p n ow kd (ro (fr - 1) + hg) b bxM) (hb' : rn (fr - 1) + rh (fr - 1) + m ≤ b) (hs : s < 3 ∧ hg = hb + (if s = 0 then many else if s = 1 then 1 else 0) ∧ (s = 1 → many = 1) ∧ (s = 2 → many = 0) ∧ many ≤ 6 ∧ k ≤ 26 ∧ hg ≤ 760 ∧ m + rh (fr - 1) ≤ 40) (hc : CLS C w CN many hg hb m (rh (fr - 1)) k tp r ((c : Nat) : Int)) (hlow : 0 < k → tH T tp ≤ hb ∧ tM T tp ≤ m) (cl : CLG w (sR T pc (fr - 1) + r) 16002 mu) (hE : F w 149 = F w 150 ∧ F w 151 = 0) (hN : 60000 ≤ N) : OK (fun w2 _ => RES Fv P PR T C ND CN p mu w w2) (fm_M_tryFrom N w (I s) (I c) (I ((rn (fr - 1) + rh (fr - 1) + m : Nat) : Int))) := by
  obtain ⟨s1, s2, s3, s4, s5, s6, s7, s8⟩ := hs
  have hf := h.1
  have hrn := (h.2.2.1 (fr - 1) (by omega)).2.2.2.2.2.1
  have cn := hp.1.1.2.1
  have ctp := fun hk => cls_tp (fr := fr) (rh := rh) hp.1 hc hk
  have hr : r < 16000 ∧ cT C c ≤ 16000 ∧ c < CN := by
    obtain ⟨c', d1, d2, d3, d4, d5, d6, d7, d8, d9, d10⟩ := id hc
    obtain rfl : c' = c := by omega
    have := (hp.1.2.2.2.1 c' d2).2.1
    omega
  unfold fm_M_tryFrom fb_M_tryFrom_0
  refine ok_lt.mpr (ok_lt.mpr (ok_lt.mpr (ok_lt.mpr ?_)))
  have e1 : upI (upI (upI (upI w 153 (I s)) 155 (I c)) 154 (I c)) 156 (I ((rn (fr - 1) + rh (fr - 1) + m : Nat) : Int)) = wi (wi (wi (wi w 153 s) 155 c) 154 c) 156 ((rn (fr - 1) + rh (fr - 1) + m : Nat) : Int) := rfl
  rw [e1]
  have f : FR [153, 154, 155, 156] [] [] [] w (wi (wi (wi (wi w 153 s) 155 c) 154 c) 156 ((rn (fr - 1) + rh (fr - 1) + m : Nat) : Int)) := FR.wi (FR.wi (FR.wi (FR.wi FR.rf (by decide)) (by decide)) (by decide)) (by decide)
  have a6 : F (wi (wi (wi (wi w 153 s) 155 c) 154 c) 156 ((rn (fr - 1) + rh (fr - 1) + m : Nat) : Int)) 156 = ((rn (fr - 1) + rh (fr - 1) + m : Nat) : Int) := by rw [F_wi (by omega) (by omega), if_pos rfl]
  have a4 : F (wi (wi (wi (wi w 153 s) 155 c) 154 c) 156 ((rn (fr - 1) + rh (fr - 1) + m : Nat) : Int)) 154 = ((c : Nat) : Int) := by rw [F_wi (by omega) (by omega), if_neg (by decide), F_wi (by omega) (by omega), if_pos rfl]
  have a3 : F (wi (wi (wi (wi w 153 s) 155 c) 154 c) 156 ((rn (fr - 1) + rh (fr - 1) + m : Nat) : Int)) 153 = ((s : Nat) : Int) := by rw [F_wi (by omega) (by omega), if_neg (by decide), F_wi (by omega) (by omega), if_neg (by decide), F_wi (by omega) (by omega), if_neg (by decide), F_wi (by omega) (by omega), if_pos rfl]
  generalize wi (wi (wi (wi w 153 s) 155 c) 154 c) 156 ((rn (fr - 1) + rh (fr - 1) + m : Nat) : Int) = v at *
  have cls : CLS C v CN many hg hb m (rh (fr - 1)) k tp r ((c : Nat) : Int) := by
    obtain ⟨c', d1, d2, d3, d4⟩ := hc
    exact ⟨c', d1, d2, by rw [FR.A f (by decide)]; exact d3, d4⟩
  have tr : TRS v T C ND CN p (ro (fr - 1)) (rn (fr - 1)) (rh (fr - 1)) k tp s many hg hb m r bxM := ⟨⟨a3, by omega, s2, fun z => s3 (by omega), s4, s5, s6, s7, s8, hr.1⟩, a6, Or.inr (by rw [a4]; exact cls), fun z => absurd z (by omega), fun z => ⟨(hlow z).1, (hlow z).2, by rw [FR.A f (by decide)]; exact ctp z⟩, by rw [FR.F f (by decide), FR.F f (by decide), FR.F f (by decide)]; exact hE⟩
  clear ctp
  unfold fr_M_choose
  rw [show (20 : Nat) = 19 + 1 from rfl, rc_s]
  refine ok_bnd.mpr (ok_mono (choose_ok (N := N) (d := 16) (mu := mu) (ctt := 16002) (PGM_fr hp f (by decide) (by decide)) (FRS_fr h f (by decide) (by decide) (by decide) (by decide) (by decide) (by decide) (by decide) (by decide) (by decide) (by decide)) (by rw [FR.A f (by decide)]; exact h106) (by rw [FR.A f (by decide)]; exact h109) (by rw [FR.F f (by decide)]; exact h152) (MEI_ints i f (by decide)) hb' tr (by omega) (fun c' hc' => ?_) ?_ hN) (fun x _ hx => ok_some.mpr (RES.tr (FR.mo f (by decide) (by decide) (by decide) (by decide)) (OTF_fr f (by decide)) (fun z _ => FR.A f (by decide)) hx (Nat.le_refl _))))
  · have : c' = c := by omega
    subst this
    omega
  · obtain ⟨e2, e3, e4, e5⟩ := cl
    unfold CLG
    rw [FR.F f (by decide), FR.F f (by decide), if_neg (by omega)]
    exact ⟨e2, e3, e4, by omega⟩
theorem i21 {s many r c : Nat} (a : ATQ Fv P PR T ND p w fr ro rn rh cb pc ct q n ow kd bxM) (h109 : A w 109 p = 0) (hm : MODE w T C ND CN p (ro (fr - 1)) (rn (fr - 1)) (rh (fr - 1)) (sR T pc (fr - 1)) q bxM mu) (hp : PGM Fv P PR T C pM pE ND CN PN SN UN FN w) (hG : tG T q = 0) (h27 : A w 27 q = ((tM T q : Nat) : Int)) (h25 : A w 25 q = ((c : Nat) : Int)) (hs : (s = 1 ∧ many = 1 ∧ tB T q + 1 ≤ tH T q) ∨ (s = 2 ∧ many = 0)) (hr : r < tR T q) (hc : CLS C w CN many (tH T q) (tH T q - many) (tM T q) (tL T q) (tK T q) (tC T q) r ((c : Nat) : Int)) (hE : F w 149 = F w 150 ∧ F w 151 = 0) (hN : 60000 ≤ N) : OK (fun w2 _ => RES Fv P PR T C ND CN p mu w w2) (fb_M_one_92 N () w (I q) (I ((60 * p + (fr - 1) : Nat) : Int)) (I s)) := by
  obtain ⟨i, h, a3, a4, a5, a6⟩ := a
  have x4 := MEI_p i
  have hf := h.1
  have nd := hp.1.1.1
  have hro := h.2.2.1 (fr - 1) (by omega)
  obtain ⟨n1, n2, n3, n4, n5, n6, -⟩ := (hp.1.2.2.1 q a4).1
  have n7 : 0 < tK T q → tH T (tC T q) ≤ tB T q ∧ tM T (tC T q) ≤ tD T q := fun z => by
    obtain ⟨-, -, -, -, w5, w6, -⟩ := (hp.1.2.2.1 q a4).1.2.2.2.2.2.2.1 z
    exact ⟨w5, w6⟩
  obtain ⟨y2, y3⟩ : F w 152 = 0 ∧ CLG w (sR T pc (fr - 1) + tR T q) 0 mu := by
    rcases hm with ⟨-, y⟩ | ⟨-, c, s, many, hg', hb', mm', r, t1, t2, -⟩
    · exact y
    · omega
  unfold fb_M_one_92
  refine ok_ck.mpr ⟨inb_at (k := 25) (n := 16000) rfl (by omega) (by omega) (by decide), ok_ck.mpr ⟨inb_at (k := 99) (n := 1440) rfl (by omega) (by omega) (by decide), ok_ck.mpr ⟨inb_at (k := 101) (n := 1440) rfl (by omega) (by omega) (by decide), ok_ck.mpr ⟨inb_at (k := 27) (n := 16000) rfl (by omega) (by omega) (by decide), ?_⟩⟩⟩⟩
  rw [I_tn (x := (q : Int)) (by omega) (by omega), Int.toNat_natCast, I_tn (x := ((60 * p + (fr - 1) : Nat) : Int)) (by omega) (by omega), Int.toNat_natCast, I_A' h25, I_A' hro.2.1, I_A' hro.2.2.1, I_A' h27, I_add, I_add, show ((rn (fr - 1) : Nat) : Int) + ((rh (fr - 1) : Nat) : Int) + ((tM T q : Nat) : Int) = ((rn (fr - 1) + rh (fr - 1) + tM T q : Nat) : Int) from by omega]
  refine ok_bnd.mpr (ok_mono (tryFrom_ok (N := N) (mu := mu) (s := s) (many := many) (hg := tH T q) (hb := tH T q - many) (m := tM T q) (r := r) hp h a6 h109 y2 i (Nat.le_refl _) ?_ (by rw [a5]; exact hc) (fun z => ?_) ?_ hE hN) (fun x _ hx => ok_some.mpr hx))
  · refine ⟨by omega, ?_, by omega, by omega, by omega, n3, n1, by omega⟩
    rcases hs with ⟨z1, z2, z3⟩ | ⟨z1, z2⟩
    · rw [if_neg (by omega), if_pos z1]; omega
    · rw [if_neg (by omega), if_neg (by omega)]; omega
  · obtain ⟨w5, w6⟩ := n7 z
    exact ⟨by omega, by omega⟩
  · obtain ⟨e2, e3, e4, e5⟩ := y3
    exact ⟨e2, e3, e4, by omega⟩
end
end
section
section
variable {Fv : Int64 → Int64 → Prop} {P : Int64 → Prop} {u v w w2 : MS} {PR N p n n2 opM bnM bxM bx2 ND fr k tp mu CN PN SN UN FN rq q m h mm : Nat} {ow kd ow2 kd2 ro rn rh cb pc ct pM pE : Nat → Nat} {T : TY} {C : CY}
theorem FRS_ret {is ls as js : List Nat} (h : FRS w T ND p fr ro rn rh cb pc ct 0 tp) (hf2 : 2 ≤ fr) (f : FR is ls as js w w2) (ha : ∀ k, k ∈ [23, 98, 99, 100, 101, 102, 103, 104, 105] → k ∉ as) (h95 : A w2 95 p = ((fr - 1 : Nat) : Int)) : FRS w2 T ND p (fr - 1) ro rn rh cb pc ct (tK T (pc (fr - 2))) (tC T (pc (fr - 2))) := by
  obtain ⟨⟨q1, q2, q3⟩, z, h5, h6, h7⟩ := h
  have fr2 : ∀ i c0 kk tt a1 a2 a3, CTI w T ND p ct i c0 kk tt a1 a2 a3 → CTI w2 T ND p ct i c0 kk tt a1 a2 a3 := fun i c0 kk tt a1 a2 a3 hc => CTI_fr hc f (ha _ (by decide)) (ha _ (by decide)) (ha _ (by decide)) (ha _ (by decide)) (ha _ (by decide))
  refine ⟨⟨by omega, by omega, h95⟩, z, fun i hi => by rw [FR.A f (ha _ (by decide)), FR.A f (ha _ (by decide)), FR.A f (ha _ (by decide))]; exact h5 i (by omega), fun i hi => ?_, ?_⟩
  · obtain ⟨r1, r2, r3, r4, r5, r6, r7, r8, r9⟩ := h6 i (by omega)
    exact ⟨by rw [FR.A f (ha _ (by decide))]; exact r1, r2, r3, r4, r5, r6, r7, r8, fr2 _ _ _ _ _ _ _ r9⟩
  · obtain ⟨r1, r2, r3, r4, r5, r6, r7, r8, r9⟩ := h6 (fr - 2) (by omega)
    rw [show fr - 1 - 1 = fr - 2 from by omega]
    exact fr2 _ _ _ _ _ _ _ r9
theorem returns_ok (a : ATQ Fv P PR T ND p w fr ro rn rh cb pc ct q n ow kd bxM) (h109 : A w 109 p = 0) (hm : MODE w T C ND CN p (ro (fr - 1)) (rn (fr - 1)) (rh (fr - 1)) (sR T pc (fr - 1)) q bxM mu) (hp : PGM Fv P PR T C pM pE ND CN PN SN UN FN w) (hG : tG T q = 0) (hH : 1 ≤ tH T q) (hK : tK T q = 0) (hR : 1 ≤ tR T q) : OK (fun w2 _ => RES Fv P PR T C ND CN p mu w w2) (fm_M_returns N w) := by
  obtain ⟨i, h, a3, a4, a5, a6⟩ := a
  have x4 := MEI_p i
  have hf := h.1
  have hro := h.2.2.1 (fr - 1) (by omega)
  obtain ⟨n1, n2, -⟩ := (hp.1.2.2.1 q a4).1
  obtain ⟨y2, y3⟩ : F w 152 = 0 ∧ CLG w (sR T pc (fr - 1) + tR T q) 0 mu := by
    rcases hm with ⟨-, y⟩ | ⟨-, c, s, many, hg', hb', mm', r, t1, t2, -⟩
    · exact y
    · omega
  clear hm
  have i' := i
  rw [show ro (fr - 1) + tH T q = ro (fr - 1) + (tH T q - 1) + 1 from by omega] at i'
  unfold fm_M_returns fb_M_returns_0 fb_M_returns_83
  refine ok_bnd.mpr (ok_mono (take_ok (N := N) i') (fun v1 r hv => ?_))
  obtain ⟨z1, -, gr, i1⟩ := hv
  have f1 : FR [] [] [92] [] w v1 := by rw [z1]; exact FR.wa FR.rf (by decide)
  have e1 : ∀ j, j ≠ p → A v1 92 j = A w 92 j := fun j hj => by rw [z1, A_eq (by omega) (by omega), if_neg hj]
  clear z1
  rw [frame0_f (fr := fr) i1 (by rw [FR.A f1 (by decide)]; exact hf.2.2) ⟨hf.1, hf.2.1⟩, bnd_so, I_F' i1.2.2.1]
  refine ok_ck.mpr ⟨inb_at (k := 100) (n := 1440) rfl (by omega) (by omega) (by decide), ok_ck.mpr ⟨inb_at (k := 92) (n := 24) rfl (by omega) (by omega) (by decide), ok_lt.mpr ?_⟩⟩
  rw [I_tn (x := ((60 * p + (fr - 1) : Nat) : Int)) (by omega) (by omega), Int.toNat_natCast, I_tn (x := (p : Int)) (by omega) (by omega), Int.toNat_natCast, I_A' (show A v1 100 (60 * p + (fr - 1)) = ((ro (fr - 1) : Nat) : Int) by rw [FR.A f1 (by decide)]; exact hro.1), wa_e (k := 92)]
  have f2 : FR [] [] [92] [] w (wa v1 92 p ((ro (fr - 1) : Nat) : Int)) := FR.wa f1 (by decide)
  have e2 : ∀ j, j ≠ p → A (wa v1 92 p ((ro (fr - 1) : Nat) : Int)) 92 j = A w 92 j := fun j hj => by rw [A_eq (by omega) (by omega), if_neg hj, e1 j hj]
  have i2 := ops_less i1 (k := ro (fr - 1)) (by omega)
  generalize wa v1 92 p ((ro (fr - 1) : Nat) : Int) = v2 at *
  rw [I_F' i2.2.2.1]
  refine ok_ck.mpr ⟨inb_at (k := 99) (n := 1440) rfl (by omega) (by omega) (by decide), ok_ck.mpr ⟨inb_at (k := 94) (n := 24) rfl (by omega) (by omega) (by decide), ok_lt.mpr ?_⟩⟩
  rw [I_tn (x := (p : Int)) (by omega) (by omega), Int.toNat_natCast, I_A' (show A v2 99 (60 * p + (fr - 1)) = ((rn (fr - 1) : Nat) : Int) by rw [FR.A f2 (by decide)]; exact hro.2.1), wa_e (k := 94)]
  have f3 : FR [] [] [92, 94] [] w (wa v2 94 p ((rn (fr - 1) : Nat) : Int)) := FR.wa (FR.mo f2 (by decide) (by decide) (by decide) (by decide)) (by decide)
  have e3 : ∀ j, j ≠ p → A (wa v2 94 p ((rn (fr - 1) : Nat) : Int)) 94 j = A w 94 j := fun j hj => by rw [A_eq (by omega) (by omega), if_neg hj, FR.A f2 (by decide)]
  have e32 : ∀ j, j ≠ p → A (wa v2 94 p ((rn (fr - 1) : Nat) : Int)) 92 j = A w 92 j := fun j hj => by rw [A_ne (by decide), e2 j hj]
  have i3 := names_less i2 (k := rn (fr - 1)) (by omega)
  generalize wa v2 94 p ((rn (fr - 1) : Nat) : Int) = v3 at *
  rw [I_F' i3.2.2.1]
  refine ok_ck.mpr ⟨inb_at (k := 95) (n := 24) rfl (by omega) (by omega) (by decide), ok_ck.mpr ⟨inb_at (k := 95) (n := 24) rfl (by omega) (by omega) (by decide), ok_lt.mpr ?_⟩⟩
  rw [I_tn (x := (p : Int)) (by omega) (by omega), Int.toNat_natCast, I_A' (show A v3 95 p = ((fr : Nat) : Int) by rw [FR.A f3 (by decide)]; exact hf.2.2), lit1q, I_sub, show ((fr : Nat) : Int) - 1 = ((fr - 1 : Nat) : Int) from by omega, wa_e (k := 95)]
  have f4 : FR [] [] [92, 94, 95] [] w (wa v3 95 p ((fr - 1 : Nat) : Int)) := FR.wa (FR.mo f3 (by decide) (by decide) (by decide) (by decide)) (by decide)
  have f34 : FR [] [] [95] [] v3 (wa v3 95 p ((fr - 1 : Nat) : Int)) := FR.wa FR.rf (by decide)
  have e4 : ∀ j, A (wa v3 95 p ((fr - 1 : Nat) : Int)) 95 j = if j = p then ((fr - 1 : Nat) : Int) else A w 95 j := fun j => by rw [A_eq (by omega) (by omega), FR.A f3 (by decide)]
  have e42 : ∀ j, j ≠ p → A (wa v3 95 p ((fr - 1 : Nat) : Int)) 92 j = A w 92 j := fun j hj => by rw [A_ne (by decide), e32 j hj]
  have e43 : ∀ j, j ≠ p → A (wa v3 95 p ((fr - 1 : Nat) : Int)) 94 j = A w 94 j := fun j hj => by rw [A_ne (by decide), e3 j hj]
  have i4 := MEI_fr i3 f34 (by decide) (by decide) (by decide) (by decide) (by decide) (by decide) (by decide) (by decide) (by decide) (by decide) (by decide) (by decide) (by decide) (by decide) (by decide) (by decide) (by decide) (by decide)
  generalize wa v3 95 p ((fr - 1 : Nat) : Int) = v4 at *
  have o4 : OTF p w v4 := ⟨fun z hz => ⟨e42 z hz, e43 z hz, by rw [e4, if_neg hz], FR.A f4 (by decide)⟩, fun j _ => ⟨FR.A f4 (by decide), FR.A f4 (by decide), FR.A f4 (by decide), FR.A f4 (by decide)⟩, fun j _ => ⟨FR.A f4 (by decide), FR.A f4 (by decide), FR.A f4 (by decide), FR.A f4 (by decide)⟩, OTF_9 f4 (by decide)⟩
  rw [I_F' i4.2.2.1]
  refine ok_ck.mpr ⟨inb_at (k := 95) (n := 24) rfl (by omega) (by omega) (by decide), ?_⟩
  rw [I_tn (x := (p : Int)) (by omega) (by omega), Int.toNat_natCast, I_A' (show A v4 95 p = ((fr - 1 : Nat) : Int) by rw [e4, if_pos rfl]), lit0q, decE (by omega) (by omega) (by omega) (by omega)]
  refine ok_br.mpr ⟨fun _ => ?_, fun z => ?_⟩
  · rw [show (4 : Int32) = I 4 from rfl, term_e, bnd_so]
    exact ok_bnd.mpr (ok_mono (ends_ok (N := N) (wr := 0) i4 (GT_atom (a := 4) hp.2.1 (by omega)) (by omega)) (fun v _ hv => ok_some.mpr ⟨Or.inl hv.1, Or.inr ⟨FR.tr (FR.mo f4 (by decide) (by decide) (by decide) (by decide)) (FR.mo hv.2.1 (by decide) (by decide) (by decide) (by decide)), hv.1.2⟩, OTF.tr o4 (OTF_fr hv.2.1 (by decide)), fun z hz => by rw [hv.2.2 z hz, FR.A f4 (by decide)]⟩))
  · have z' := of_decide_eq_false z
    refine ok_bnd.mpr (ok_mono (put_ok (N := N) i4 gr (by omega)) (fun v _ hv => ok_some.mpr ?_))
    obtain ⟨v0, iv⟩ := hv
    have fv : FR [] [] [92] [91] v4 v := by rw [v0]; exact FR.wa (FR.wj FR.rf (by decide)) (by decide)
    have ev : ∀ j, j ≠ p → A v 92 j = A v4 92 j := fun j hj => by rw [v0, A_eq (by omega) (by omega), if_neg hj]; rfl
    clear v0
    have fw : FR [] [] [92, 94, 95] [91] w v := FR.tr (FR.mo f4 (by decide) (by decide) (by decide) (by decide)) (FR.mo fv (by decide) (by decide) (by decide) (by decide))
    obtain ⟨r1, r2, r3, r4, r5, r6, r7, r8, -⟩ := h.2.2.2.1 (fr - 2) (by omega)
    rw [show fr - 2 + 1 = fr - 1 from by omega] at r5 r7 r8
    rw [hK] at h a6
    have hfr := FRS_ret h (by omega) fw (by decide) (by rw [FR.A fv (by decide), e4, if_pos rfl])
    have sr : sR T pc (fr - 1) = sR T pc (fr - 2) + tR T (pc (fr - 2)) := by
      obtain ⟨f2, hf2⟩ : ∃ f2, fr = f2 + 2 := ⟨fr - 2, by omega⟩
      subst hf2
      rfl
    refine ⟨Or.inr (Or.inr ⟨mu - 1, ?_, fr - 1, ro, rn, rh, cb, pc, ct, pc (fr - 2), n, ow, kd, bxM, ⟨?_, hfr, ?_, r2, ?_, ?_⟩, by rw [FR.A fw (by decide)]; exact h109, Or.inl ⟨r3, by rw [FR.F fw (by decide)]; exact y2, ?_⟩⟩), Or.inl (FR.mo fw (by decide) (by decide) (by decide) (by decide)), OTF.tr o4 ⟨fun z hz => ⟨ev z hz, FR.A fv (by decide), FR.A fv (by decide), FR.A fv (by decide)⟩, fun j _ => ⟨FR.A fv (by decide), FR.A fv (by decide), FR.A fv (by decide), FR.A fv (by decide)⟩, fun j _ => ⟨FR.A fv (by decide), FR.A fv (by decide), FR.A fv (by decide), FR.A fv (by decide)⟩, OTF_9 fv (by decide)⟩, fun z _ => FR.A fw (by decide)⟩
    · obtain ⟨c1, c2, c3, c4⟩ := y3; omega
    · rw [show fr - 1 - 1 = fr - 2 from by omega, ← r5, ← r7]; exact iv
    · rw [show fr - 1 - 1 = fr - 2 from by omega, FR.A fw (by decide)]; exact r1
    · rw [show fr - 1 - 1 = fr - 2 from by omega]; exact r6
    · rw [show fr - 1 - 1 = fr - 2 from by omega, FR.A fw (by decide), ← r8]; exact a6
    · obtain ⟨c1, c2, c3, c4⟩ := y3
      unfold CLG
      rw [FR.F fw (by decide), FR.F fw (by decide), show fr - 1 - 1 = fr - 2 from by omega]
      exact ⟨c1, c2, c3, by omega⟩
end
end
section
section
variable {Fv : Int64 → Int64 → Prop} {P : Int64 → Prop} {u v w w2 : MS} {PR N p n n2 opM bnM bxM bx2 ND fr k tp mu CN PN SN UN FN rq q m h mm : Nat} {ow kd ow2 kd2 ro rn rh cb pc ct pM pE : Nat → Nat} {T : TY} {C : CY}
theorem goOnWith_ok (a : ATQ Fv P PR T ND p w fr ro rn rh cb pc ct q n ow kd bxM) (h109 : A w 109 p = 0) (h152 : F w 152 = 0) (cl : CLG w (sR T pc (fr - 1) + tR T q) 0 mu) (hp : PGM Fv P PR T C pM pE ND CN PN SN UN FN w) (hG : tG T q = 0) (h23 : A w 23 q = 27) (h111 : A w 31 q = -1 → w.2.2.2 111 p = -1) (h110 : 0 ≤ A w 110 p) (hE : F w 149 = F w 150 ∧ F w 151 = 0) (hN : 60000 ≤ N) : OK (fun w2 _ => RES Fv P PR T C ND CN p mu w w2) (fm_M_goOnWith N w (I q)) := by
  obtain ⟨i, h, a3, a4, a5, a6⟩ := a
  have x4 := MEI_p i
  have hf := h.1
  have nd := hp.1.1.1
  have hro := h.2.2.1 (fr - 1) (by omega)
  have b30 : bxM ≤ 30 := i.2.2.2.2.2.2.2.2.2.2.2.1.2
  have p108 : A w 108 p = ((bxM : Nat) : Int) := i.2.2.2.2.2.2.2.2.2.2.2.1.1
  obtain ⟨n1, n2, n3, n4, n5, n6, -⟩ := (hp.1.2.2.1 q a4).1
  have n7 : 0 < tK T q → tH T (tC T q) ≤ tB T q ∧ tM T (tC T q) ≤ tD T q := fun z => by
    obtain ⟨-, -, -, -, w5, w6, -⟩ := (hp.1.2.2.1 q a4).1.2.2.2.2.2.2.1 z
    exact ⟨w5, w6⟩
  have g27 := ((hp.1.2.2.1 q a4).2.1.2.2.2.2.2.2.2.2.2.2.2.1 h23).2.1
  obtain ⟨k0, hk0⟩ : ∃ k0 : Nat, A w 110 p = k0 := ⟨(A w 110 p).toNat, by omega⟩
  have r110 := A_r w 110 p
  have r25 := A_r w 25 q
  unfold fm_M_goOnWith fb_M_goOnWith_0
  rw [frame0_f (fr := fr) i hf.2.2 ⟨hf.1, hf.2.1⟩, bnd_so]
  refine ok_lt.mpr ?_
  rw [wi_e]
  have f1 : FR [159] [] [] [] w (wi w 159 q) := FR.wi FR.rf (by decide)
  have e1 : F (wi w 159 q) 159 = q := by rw [F_wi (by omega) (by omega), if_pos rfl]
  generalize wi w 159 q = w1 at *
  rw [I_F' (show F w1 133 = p by rw [FR.F f1 (by decide)]; exact i.2.2.1)]
  refine ok_ck.mpr ⟨inb_at (k := 110) (n := 24) rfl (by omega) (by omega) (by decide), ok_lt.mpr (ok_lt.mpr ?_)⟩
  rw [I_tn (x := (p : Int)) (by omega) (by omega), Int.toNat_natCast, I_A' (show A w1 110 p = k0 by rw [FR.A f1 (by decide)]; exact hk0), wi_e (k := 158), show (3 : Int32) = I 3 from rfl, wi_e (k := 153)]
  have f2 : FR [153, 158, 159] [] [] [] w (wi (wi w1 158 k0) 153 3) := FR.wi (FR.wi (FR.mo f1 (by decide) (by decide) (by decide) (by decide)) (by decide)) (by decide)
  have e28 : F (wi (wi w1 158 k0) 153 3) 158 = k0 := by rw [F_wi (by omega) (by omega), if_neg (by decide), F_wi (by omega) (by omega), if_pos rfl]
  have e23 : F (wi (wi w1 158 k0) 153 3) 153 = 3 := by rw [F_wi (by omega) (by omega), if_pos rfl]
  have e29 : F (wi (wi w1 158 k0) 153 3) 159 = q := by rw [F_wi (by omega) (by omega), if_neg (by decide), F_wi (by omega) (by omega), if_neg (by decide)]; exact e1
  generalize wi (wi w1 158 k0) 153 3 = w2 at *
  refine ok_ck.mpr ⟨inb_at (k := 25) (n := 16000) rfl (by omega) (by omega) (by decide), ok_lt.mpr ?_⟩
  rw [I_tn (x := (q : Int)) (by omega) (by omega), Int.toNat_natCast, I_A' (show A w2 25 q = A w 25 q from FR.A f2 (by decide)), wi_e (k := 155)]
  have f3 : FR [153, 155, 158, 159] [] [] [] w (wi w2 155 (A w 25 q)) := FR.wi (FR.mo f2 (by decide) (by decide) (by decide) (by decide)) (by decide)
  have e35 : F (wi w2 155 (A w 25 q)) 155 = A w 25 q := by rw [F_wi r25.1 r25.2, if_pos rfl]
  have e38 : F (wi w2 155 (A w 25 q)) 158 = k0 := by rw [F_wi r25.1 r25.2, if_neg (by decide)]; exact e28
  have e33 : F (wi w2 155 (A w 25 q)) 153 = 3 := by rw [F_wi r25.1 r25.2, if_neg (by decide)]; exact e23
  have e39 : F (wi w2 155 (A w 25 q)) 159 = q := by rw [F_wi r25.1 r25.2, if_neg (by decide)]; exact e29
  generalize wi w2 155 (A w 25 q) = w3 at *
  refine ok_ck.mpr ⟨inb_at (k := 99) (n := 1440) rfl (by omega) (by omega) (by decide), ok_ck.mpr ⟨inb_at (k := 101) (n := 1440) rfl (by omega) (by omega) (by decide), ok_ck.mpr ⟨inb_at (k := 27) (n := 16000) rfl (by omega) (by omega) (by decide), ok_lt.mpr ?_⟩⟩⟩
  rw [I_tn (x := ((60 * p + (fr - 1) : Nat) : Int)) (by omega) (by omega), Int.toNat_natCast, I_A' (show A w3 99 (60 * p + (fr - 1)) = ((rn (fr - 1) : Nat) : Int) by rw [FR.A f3 (by decide)]; exact hro.2.1), I_A' (show A w3 101 (60 * p + (fr - 1)) = ((rh (fr - 1) : Nat) : Int) by rw [FR.A f3 (by decide)]; exact hro.2.2.1), I_A' (show A w3 27 q = ((tM T q : Nat) : Int) by rw [FR.A f3 (by decide)]; exact g27), I_add, I_add, show ((rn (fr - 1) : Nat) : Int) + ((rh (fr - 1) : Nat) : Int) + ((tM T q : Nat) : Int) = ((rn (fr - 1) + rh (fr - 1) + tM T q : Nat) : Int) from by omega, wi_e (k := 156)]
  have f4 : FR [153, 155, 156, 158, 159] [] [] [] w (wi w3 156 ((rn (fr - 1) + rh (fr - 1) + tM T q : Nat) : Int)) := FR.wi (FR.mo f3 (by decide) (by decide) (by decide) (by decide)) (by decide)
  have e46 : F (wi w3 156 ((rn (fr - 1) + rh (fr - 1) + tM T q : Nat) : Int)) 156 = ((rn (fr - 1) + rh (fr - 1) + tM T q : Nat) : Int) := by rw [F_wi (by omega) (by omega), if_pos rfl]
  have e45 : F (wi w3 156 ((rn (fr - 1) + rh (fr - 1) + tM T q : Nat) : Int)) 155 = A w 25 q := by rw [F_wi (by omega) (by omega), if_neg (by decide)]; exact e35
  have e48 : F (wi w3 156 ((rn (fr - 1) + rh (fr - 1) + tM T q : Nat) : Int)) 158 = k0 := by rw [F_wi (by omega) (by omega), if_neg (by decide)]; exact e38
  have e43 : F (wi w3 156 ((rn (fr - 1) + rh (fr - 1) + tM T q : Nat) : Int)) 153 = 3 := by rw [F_wi (by omega) (by omega), if_neg (by decide)]; exact e33
  have e49 : F (wi w3 156 ((rn (fr - 1) + rh (fr - 1) + tM T q : Nat) : Int)) 159 = q := by rw [F_wi (by omega) (by omega), if_neg (by decide)]; exact e39
  generalize wi w3 156 ((rn (fr - 1) + rh (fr - 1) + tM T q : Nat) : Int) = w4 at *
  have i4 := MEI_ints i f4 (by decide)
  have back : ∀ x, RES Fv P PR T C ND CN p mu w4 x → RES Fv P PR T C ND CN p mu w x := fun x hx => RES.tr (FR.mo f4 (by decide) (by decide) (by decide) (by decide)) (OTF_fr f4 (by decide)) (fun z _ => FR.A f4 (by decide)) hx (Nat.le_refl _)
  have none : OK (fun w2 _ => RES Fv P PR T C ND CN p mu w w2) (fb_M_goOnWith_101 N () w4) := by
    unfold fb_M_goOnWith_101 fb_M_goOnWith_136
    rw [I_F' i4.2.2.1]
    refine ok_ck.mpr ⟨inb_at (k := 108) (n := 24) rfl (by omega) (by omega) (by decide), ok_ck.mpr ⟨inb_at (k := 110) (n := 24) rfl (by omega) (by omega) (by decide), ok_lt.mpr ?_⟩⟩
    rw [I_tn (x := (p : Int)) (by omega) (by omega), Int.toNat_natCast, I_A' (show A w4 108 p = ((bxM : Nat) : Int) by rw [FR.A f4 (by decide)]; exact p108), wa_e (k := 110)]
    have f5 : FR [153, 155, 156, 158, 159] [] [110] [] w (wa w4 110 p bxM) := FR.wa (FR.mo f4 (by decide) (by decide) (by decide) (by decide)) (by decide)
    have e5 : 0 ≤ A (wa w4 110 p bxM) 110 p := by rw [A_eq (by omega) (by omega), if_pos rfl]; omega
    have f45 : FR [] [] [110] [] w4 (wa w4 110 p bxM) := FR.wa FR.rf (by decide)
    have o5 : OTF p w (wa w4 110 p bxM) := OTF.tr (OTF_fr f4 (by decide)) (OTF_110 (by omega) (by omega))
    have e56 : F (wa w4 110 p bxM) 156 = ((rn (fr - 1) + rh (fr - 1) + tM T q : Nat) : Int) := e46
    have e59 : F (wa w4 110 p bxM) 159 = q := e49
    have i5 := MEI_fr i4 f45 (by decide) (by decide) (by decide) (by decide) (by decide) (by decide) (by decide) (by decide) (by decide) (by decide) (by decide) (by decide) (by decide) (by decide) (by decide) (by decide) (by decide) (by decide)
    generalize wa w4 110 p bxM = w5 at *
    rw [I_F' i5.2.2.1, I_F' e56]
    refine ok_ck.mpr ⟨inb_at (k := 94) (n := 24) rfl (by omega) (by omega) (by decide), ok_lt.mpr ?_⟩
    rw [I_tn (x := (p : Int)) (by omega) (by omega), Int.toNat_natCast, wa_e (k := 94)]
    have f6 : FR [153, 155, 156, 158, 159] [] [94, 110] [] w (wa w5 94 p ((rn (fr - 1) + rh (fr - 1) + tM T q : Nat) : Int)) := FR.wa (FR.mo f5 (by decide) (by decide) (by decide) (by decide)) (by decide)
    have f56 : FR [] [] [94] [] w5 (wa w5 94 p ((rn (fr - 1) + rh (fr - 1) + tM T q : Nat) : Int)) := FR.wa FR.rf (by decide)
    have o6 : OTF p w (wa w5 94 p ((rn (fr - 1) + rh (fr - 1) + tM T q : Nat) : Int)) := OTF.tr o5 (OTF_at f56 (i0 := p) (fun j hj => by rw [A_eq (by omega) (by omega), if_neg hj]) (Or.inl ⟨by decide, rfl⟩))
    have i6 := names_less i5 (k := rn (fr - 1) + rh (fr - 1) + tM T q) (Nat.le_refl _)
    generalize wa w5 94 p ((rn (fr - 1) + rh (fr - 1) + tM T q : Nat) : Int) = w6 at *
    have am := afterMessages_ok (N := N) (mu := mu) (q := q) (r := tR T q - 1) (C := C) (CN := CN) i6 (PRG_fr hp.1 f6 (by decide) (by decide)) (FRS_fr h f6 (by decide) (by decide) (by decide) (by decide) (by decide) (by decide) (by decide) (by decide) (by decide) (by decide)) (by rw [FR.F f56 (by decide)]; exact e59) a4 (by rw [FR.A f6 (by decide)]; exact h23) hG a5 (by rw [FR.A f6 (by decide)]; exact a6) (by rw [FR.A f6 (by decide)]; exact h109) (by rw [FR.F f6 (by decide)]; exact h152) (fun z => by rw [FR.A f6 (by decide)] at z; rw [f6.2.2.2 111 (by decide)]; exact h111 z) (by rw [FR.A f56 (by decide)]; exact e5) (by omega) (by obtain ⟨c1, c2, c3, c4⟩ := cl; unfold CLG; rw [FR.F f6 (by decide), FR.F f6 (by decide)]; exact ⟨c1, c2, c3, by omega⟩)
    exact ok_bnd.mpr (ok_mono am (fun x _ hx => ok_some.mpr (RES.tr (FR.mo f6 (by decide) (by decide) (by decide) (by decide)) o6 (fun z _ => FR.A f6 (by decide)) hx (Nat.le_refl _))))
  rw [I_F' i4.2.2.1]
  refine ok_ck.mpr ⟨inb_at (k := 108) (n := 24) rfl (by omega) (by omega) (by decide), ?_⟩
  rw [I_tn (x := (p : Int)) (by omega) (by omega), Int.toNat_natCast, I_A' (show A w4 108 p = ((bxM : Nat) : Int) by rw [FR.A f4 (by decide)]; exact p108), I_F' e48, I_F' e45, decI (by omega) (by omega) (by omega) (by omega), litm1q, decE r25.1 r25.2 (by omega) (by omega)]
  refine ok_br.mpr ⟨fun _ => none, fun z8 => ok_br.mpr ⟨fun _ => none, fun z5 => ok_lt.mpr ?_⟩⟩
  have hk8 : (k0 : Int) < bxM := by have := of_decide_eq_false z8; omega
  obtain ⟨r, hr, hc⟩ := ((hp.1.2.2.1 q a4).2.1.2.2.2.2.2.2.2.2.2.2.2.1 h23).2.2.1.resolve_left (of_decide_eq_false z5)
  have hcc := hc
  obtain ⟨c, d1, d2, d3, d4, d5, d6, d7, d8, d9, d10⟩ := hcc
  have cwd := (hp.1.2.2.2.1 c d2).2.1
  have cn := hp.1.1.2.1
  rw [d1, wi_e (k := 154)]
  have f5 : FR [153, 154, 155, 156, 158, 159] [] [] [] w (wi w4 154 c) := FR.wi (FR.mo f4 (by decide) (by decide) (by decide) (by decide)) (by decide)
  have e54 : F (wi w4 154 c) 154 = c := by rw [F_wi (by omega) (by omega), if_pos rfl]
  have e56 : F (wi w4 154 c) 156 = ((rn (fr - 1) + rh (fr - 1) + tM T q : Nat) : Int) := by rw [F_wi (by omega) (by omega), if_neg (by decide)]; exact e46
  have e55 : F (wi w4 154 c) 155 = c := by rw [F_wi (by omega) (by omega), if_neg (by decide), e45, d1]
  have e58 : F (wi w4 154 c) 158 = k0 := by rw [F_wi (by omega) (by omega), if_neg (by decide)]; exact e48
  have e53 : F (wi w4 154 c) 153 = 3 := by rw [F_wi (by omega) (by omega), if_neg (by decide)]; exact e43
  have e59 : F (wi w4 154 c) 159 = q := by rw [F_wi (by omega) (by omega), if_neg (by decide)]; exact e49
  generalize wi w4 154 c = w5 at *
  have i5 := MEI_ints i f5 (by decide)
  rw [← a5] at hc
  have cls : CLS C w5 CN 1 (tH T q) (tH T q) (tM T q) (rh (fr - 1)) (tK T q) (tC T q) r ((c : Nat) : Int) := by
    obtain ⟨c', b1, b2, b3, b4⟩ := hc
    exact ⟨c', by rw [← d1]; exact b1, b2, by rw [FR.A f5 (by decide)]; exact b3, b4⟩
  have ctp := fun hk => cls_tp (fr := fr) (rh := rh) (PRG_fr hp.1 f5 (by decide) (by decide)) cls hk
  have tr : TRS w5 T C ND CN p (ro (fr - 1)) (rn (fr - 1)) (rh (fr - 1)) (tK T q) (tC T q) 3 1 (tH T q) (tH T q) (tM T q) r bxM := ⟨⟨e53, by omega, by rw [if_neg (by omega), if_neg (by omega)]; rfl, fun _ => rfl, fun z => by omega, by omega, n3, n1, by omega, by omega⟩, e56, Or.inr (by rw [e54]; exact cls), fun _ => ⟨by rw [e55]; exact cls, by omega, by omega, q, e59, a4, by rw [FR.A f5 (by decide)]; exact h23, rfl, rfl, a5.symm, rfl, rfl, hG, hr, fun y => by rw [FR.A f5 (by decide)] at y; rw [f5.2.2.2 111 (by decide)]; exact h111 y⟩, fun z => ⟨by have := n7 z; omega, by have := n7 z; omega, ctp z⟩, by rw [FR.F f5 (by decide), FR.F f5 (by decide), FR.F f5 (by decide)]; exact hE⟩
  clear ctp
  unfold fr_M_choose fb_M_goOnWith_136
  rw [show (20 : Nat) = 19 + 1 from rfl, rc_s]
  refine ok_bnd.mpr (ok_mono (choose_ok (N := N) (d := 16) (mu := mu) (ctt := 16002) (PGM_fr hp f5 (by decide) (by decide)) (FRS_fr h f5 (by decide) (by decide) (by decide) (by decide) (by decide) (by decide) (by decide) (by decide) (by decide) (by decide)) (by rw [FR.A f5 (by decide)]; exact a6) (by rw [FR.A f5 (by decide)]; exact h109) (by rw [FR.F f5 (by decide)]; exact h152) i5 (Nat.le_refl _) tr (by omega) (fun c' hc' => ?_) ?_ hN) (fun x _ hx => ok_some.mpr (RES.tr (FR.mo f5 (by decide) (by decide) (by decide) (by decide)) (OTF_fr f5 (by decide)) (fun z _ => FR.A f5 (by decide)) hx (Nat.le_refl _))))
  · have : c' = c := by omega
    subst this
    omega
  · obtain ⟨c1, c2, c3, c4⟩ := cl
    unfold CLG
    rw [FR.F f5 (by decide), FR.F f5 (by decide), if_pos rfl, e58]
    exact ⟨c1, c2, c3, by omega⟩
end
end
section
section
variable {Fv : Int64 → Int64 → Prop} {P : Int64 → Prop} {u v w w2 : MS} {PR N p n n2 opM bnM bxM bx2 ND fr k tp mu CN PN SN UN FN rq q m h mm : Nat} {ow kd ow2 kd2 ro rn rh cb pc ct pM pE : Nat → Nat} {T : TY} {C : CY}
theorem next0 {is ls as js : List Nat} (e : ERX Fv P PR T C ND CN p u fr ro rn rh cb pc ct q n ow kd opM bnM bxM mu) (hG : tG T q = 0) (hm : m < ND) (h3 : tL T m = tL T q) (h4 : tG T m = 0) (h5 : tR T m < tR T q) (f : FR is ls as js u v) (hi : ∀ k, k ∈ [152, 164, 165] → k ∉ is) (h98 : A v 98 (60 * p + (fr - 1)) = ((m : Nat) : Int)) (h109 : A v 109 p = 0) (i : MEI Fv P PR v p n2 ow2 kd2 (ro (fr - 1) + tH T m) (rn (fr - 1) + rh (fr - 1) + tM T m) bx2) {ct2 : Nat → Nat} (hf : FRS v T ND p fr ro rn rh cb pc ct2 (tK T m) (tC T m)) (h106 : A v 106 p = ((cb (fr - 1) + tK T m : Nat) : Int)) : ∃ m2, m2 < mu ∧ STE Fv P PR T C ND CN p m2 v := by
  obtain ⟨-, -, e3, e4, -, -, -, -, e9⟩ := e
  obtain ⟨y2, y3⟩ : F u 152 = 0 ∧ CLG u (sR T pc (fr - 1) + tR T q) 0 mu := by
    rcases e9 with ⟨-, y⟩ | ⟨-, c, s, many, hg', hb', mm', r, t1, t2, -⟩
    · exact y
    · omega
  obtain ⟨c1, c2, c3, c4⟩ := y3
  refine ⟨mu - 1, by omega, fr, ro, rn, rh, cb, pc, ct2, m, n2, ow2, kd2, bx2, ⟨i, hf, h98, hm, by rw [h3]; exact e4, h106⟩, h109, Or.inl ⟨h4, by rw [FR.F f (hi _ (by decide))]; exact y2, ?_⟩⟩
  unfold CLG
  rw [FR.F f (hi _ (by decide)), FR.F f (hi _ (by decide))]
  exact ⟨c1, c2, c3, by omega⟩
theorem i28 {c a : Nat} (e : ERX Fv P PR T C ND CN p u fr ro rn rh cb pc ct q n ow kd (ro (fr - 1) + tH T q) (rn (fr - 1) + rh (fr - 1) + tM T q) bxM mu) (hp : PGM Fv P PR T C pM pE ND CN PN SN UN FN u) (hG : tG T q = 0) (hq : tB T q + 1 ≤ tH T q) (h27 : A u 27 q = c) (hcD : tD T q ≤ c) (hc : c ≤ tM T q) (ha : A u 25 q = a) (hm : a < ND) (hx : NX T q a (tH T q - 1) c) (hN : 60000 ≤ N) : OK (fun v _ => RES Fv P PR T C ND CN p mu u v) (fm_M_afterRun N u (I q)) := by
  have e' := e
  rw [show ro (fr - 1) + tH T q = ro (fr - 1) + (tH T q - 1) + 1 from by omega] at e'
  have q1 := e.2.2.1
  have nd := hp.1.1.1
  have hrn := (e.2.1.2.2.1 (fr - 1) (by have := e.2.1.1; omega))
  have hf := e.2.1.1
  have hMM := (hp.1.2.2.1 q q1).1.2.1
  unfold fm_M_afterRun fb_M_afterRun_0 fb_M_afterRun_23
  refine ok_bnd.mpr (ok_mono (takeE (N := N) e' (by omega)) (fun v r hv => ?_))
  obtain ⟨v1, v2, v3, v4⟩ := hv
  have x4 := MEI_p v1.1
  have back : ∀ x, RES Fv P PR T C ND CN p mu v x → RES Fv P PR T C ND CN p mu u x := fun x hx => RES.tr (FR.mo v3 (by decide) (by decide) (by decide) (by decide)) v4 (fun z _ => FR.A v3 (by decide)) hx (Nat.le_refl _)
  have t49 : ∀ y : Int32, OK (fun x _ => RES Fv P PR T C ND CN p mu u x) (fb_M_afterRun_49 N () v (I q) r y) := fun y => by
    unfold fb_M_afterRun_49
    refine ok_ck.mpr ⟨inb_at (k := 27) (n := 16000) rfl (by omega) (by omega) (by decide), ?_⟩
    rw [I_tn (x := (q : Int)) (by omega) (by omega), Int.toNat_natCast, I_A' (show A v 27 q = c by rw [FR.A v3 (by decide)]; exact h27)]
    refine ok_bnd.mpr (ok_mono (namesTo_ok (N := N) (a := c) v1 (by omega)) (fun x _ hx' => ?_))
    obtain ⟨-, x2, x3, x4'⟩ := hx'
    have r0 : ∀ t : Int64, OK (fun x _ => RES Fv P PR T C ND CN p mu u x) (fb_M_afterRun_89 N () x (I q) 111 (I p) t) := fun t => by
      obtain ⟨k1, k2, k3, k4, k5, k6, k7, k8, k9⟩ := id v1
      have fx : FR [] [] [92, 94] [] u x := FR.tr (FR.mo v3 (by decide) (by decide) (by decide) (by decide)) (FR.mo x3 (by decide) (by decide) (by decide) (by decide))
      obtain ⟨n1, n2, n3, n4, n5, n6, n7, n8, n9⟩ := id hx
      unfold fb_M_afterRun_89
      refine ok_ck.mpr ⟨rfl, ok_ck.mpr ⟨inb_at (k := 111) (n := 24) rfl (by omega) (by omega) (by decide), ok_lt.mpr ?_⟩⟩
      rw [I_tn (x := (p : Int)) (by omega) (by omega), Int.toNat_natCast, wj_e]
      have f1 : FR [] [] [] [111] x (wj x 111 p t) := FR.wj FR.rf (by decide)
      have i1 := MEI_fr x2 f1 (by decide) (by decide) (by decide) (by decide) (by decide) (by decide) (by decide) (by decide) (by decide) (by decide) (by decide) (by decide) (by decide) (by decide) (by decide) (by decide) (by decide) (by decide)
      have o1 : OTF p x (wj x 111 p t) := OTF_111
      generalize wj x 111 p t = w1 at *
      have f2 : FR [] [] [92, 94] [111] u w1 := FR.tr (FR.mo fx (by decide) (by decide) (by decide) (by decide)) (FR.mo f1 (by decide) (by decide) (by decide) (by decide))
      refine ok_ck.mpr ⟨inb_at (k := 25) (n := 16000) rfl (by omega) (by omega) (by decide), ?_⟩
      rw [I_tn (x := (q : Int)) (by omega) (by omega), Int.toNat_natCast, I_A' (show A w1 25 q = a by rw [FR.A f2 (by decide)]; exact ha)]
      refine ok_bnd.mpr (ok_mono (at_ok (N := N) (q := a) (fr := fr) (ro := ro) (rn := rn) (rh := rh) (cb := cb) (pc := pc) (ct := ct) (by rw [n1, n2]; exact i1) (by rw [n4, n8]; exact FRS_fr e.2.1 f2 (by decide) (by decide) (by decide) (by decide) (by decide) (by decide) (by decide) (by decide) (by decide) (by decide)) hm nd (by rw [n3]; exact e.2.2.2.1) (by rw [FR.A f2 (by decide), n4]; exact e.2.2.2.2.1)) (fun y _ hy => ok_some.mpr ?_))
      obtain ⟨y1, y2, y3⟩ := hy
      have fy : FR [] [] [92, 94, 98] [111] u y := FR.tr (FR.mo f2 (by decide) (by decide) (by decide) (by decide)) (FR.mo y2 (by decide) (by decide) (by decide) (by decide))
      obtain ⟨w1', w2', w3', w4', w5', w6'⟩ := y1
      exact ⟨Or.inr (Or.inr (next0 e hG hm n3 (by rw [n5]; exact hG) n9 fy (by decide) w3' (by rw [FR.A fy (by decide)]; exact e.2.2.2.2.2.1) w1' w2' w6')), Or.inl (FR.mo fy (by decide) (by decide) (by decide) (by decide)), OTF.tr (OTF.tr v4 x4') (OTF.tr o1 y3), fun z _ => FR.A fy (by decide)⟩
    rw [I_F' x2.2.2.1]
    refine ok_br.mpr ⟨fun _ => r0 _, fun _ => ?_⟩
    rw [valueOf_e, bnd_so]
    exact r0 _
  have t24 : ∀ y : Int32, OK (fun x _ => RES Fv P PR T C ND CN p mu u x) (fb_M_afterRun_24 N () v (I q) r y) := fun y => by
    unfold fb_M_afterRun_24
    rw [lit1q, show (10 : Int32) = I 10 from rfl, term_e, bnd_so]
    refine ok_br.mpr ⟨fun _ => ok_br.mpr ⟨fun _ => t49 y, fun _ => ?_⟩, fun _ => t49 y⟩
    exact ok_bnd.mpr (ok_mono (err_ok (N := N) (a := 11) v1 (PGM_fr hp v3 (by decide) (by decide)) (by omega) hN) (fun x _ hx => ok_some.mpr (back x hx)))
  rw [sortOf_e, bnd_so, valueOf_e, bnd_so]
  exact ok_br.mpr ⟨fun _ => ok_br.mpr ⟨fun _ => t24 0, fun _ => t24 1⟩, fun _ => t24 0⟩
end
end
section
section
variable {Fv : Int64 → Int64 → Prop} {P : Int64 → Prop} {u v w w2 : MS} {PR N p n n2 opM bnM bxM bx2 ND fr k tp mu CN PN SN UN FN rq q m h mm : Nat} {ow kd ow2 kd2 ro rn rh cb pc ct pM pE : Nat → Nat} {T : TY} {C : CY}
def MVD (Fv : Int64 → Int64 → Prop) (P : Int64 → Prop) (p : Nat) (u : MS) (n : Nat) (ow kd : Nat → Nat) (opM bnM : Nat) (v : MS) (n2 : Nat) (ow2 kd2 : Nat → Nat) (fd : Int64 → Int64) : Prop :=
  (∀ i, i < opM → v.2.2.2 91 (46000 * p + i) = fd (u.2.2.2 91 (46000 * p + i))) ∧ (∀ i, i < bnM → v.2.2.2 93 (2500 * p + i) = fd (u.2.2.2 93 (2500 * p + i))) ∧
  (∀ i f s, i < opM → SZ (hp u p) n ow kd Fv P f (u.2.2.2 91 (46000 * p + i)) s → SZ (hp v p) n2 ow2 kd2 Fv P f (fd (u.2.2.2 91 (46000 * p + i))) s) ∧
  (∀ i f s, i < bnM → SZ (hp u p) n ow kd Fv P f (u.2.2.2 93 (2500 * p + i)) s → SZ (hp v p) n2 ow2 kd2 Fv P f (fd (u.2.2.2 93 (2500 * p + i))) s) ∧
  (∀ i j t, i < opM → LST (hp u p) j (u.2.2.2 91 (46000 * p + i)) t → LST (hp v p) j (fd (u.2.2.2 91 (46000 * p + i))) (fd t))
theorem wantsE (e : ERX Fv P PR T C ND CN p u fr ro rn rh cb pc ct q n ow kd opM bnM bxM mu) {k : Nat} (hk : k ≤ 100000) (hN : 60000 ≤ N) : OK (fun v r => ∃ n2 ow2 kd2 fd, ERX Fv P PR T C ND CN p v fr ro rn rh cb pc ct q n2 ow2 kd2 opM bnM bxM mu ∧ FR [136, 138] [139] [89, 90, 135] [88, 91, 93, 107, 134, 137] u v ∧ MVD Fv P p u n ow kd opM bnM v n2 ow2 kd2 fd ∧ ((r = I 1 ∧ n2 + k ≤ 500) ∨ r = I 0)) (fm_M_wants N u (I p) (I k)) := by
  have i := e.1
  obtain ⟨m1, m2, m3, m4, m5, m6⟩ := id i
  obtain ⟨x1, x2, x3, x4, x5, x6, x7, x8, x9, x10, x11⟩ := id m6
  refine ok_mono (wants_ok (N := N) m6 m5 (k := k) hk hN) (fun v r hv => ?_)
  obtain ⟨n2, ow2, kd2, fd, R, ⟨t1, t2, t3, t4, t5, t6, t7, t8, t9, t10, t11, t12⟩, h2⟩ := hv
  have mv : MEI Fv P PR v p n2 ow2 kd2 opM bnM bxM := MEI_upd i (FR.mo t6 (by decide) (by decide) (by decide) (by decide)) (by rw [FR.F t6 (by decide)]; exact m1.2.2.2.1) (fun z hz => by rw [t5, if_neg hz]) (fun z _ => FR.A t6 (by decide)) (fun z _ => FR.A t6 (by decide)) (fun z _ => FR.A t6 (by decide)) (fun j hj => t7 j hj) (fun j hj => RTS_out t8 x5.2 hj) (fun j hj => RTS_out t9 x6.2 hj) (fun j hj => RTS_out t10 x7.2 hj) (by rw [t5, if_pos rfl]) t3
  refine ⟨n2, ow2, kd2, fd, ERX_fr e t6 (by decide) (by decide) (by decide) mv e.2.2.2.2.2.2.1 e.2.2.2.2.2.2.2.1, t6, ⟨fun j hj => ((t8 (46000 * p + j)).1 ⟨by omega, by omega⟩).1, fun j hj => ((t9 (2500 * p + j)).1 ⟨by omega, by omega⟩).1, fun j f s hj z => HOM_sz t1 t2 x2 z ((t8 (46000 * p + j)).1 ⟨by omega, by omega⟩).2, fun j f s hj z => HOM_sz t1 t2 x2 z ((t9 (2500 * p + j)).1 ⟨by omega, by omega⟩).2, fun j k t hj l => LST_hom t1 k _ t ((t8 (46000 * p + j)).1 ⟨by omega, by omega⟩).2 l⟩, ?_⟩
  rcases h2 with h2 | h2
  · exact Or.inl h2
  · exact Or.inr h2.1
theorem noRoomR (e : ERX Fv P PR T C ND CN p u fr ro rn rh cb pc ct q n ow kd opM bnM bxM mu) (hPB : PB P PR) : OK (fun v _ => RES Fv P PR T C ND CN p mu u v) (fm_M_noRoom N u) :=
  ok_mono (noRoom_ok (N := N) e.1 hPB) (fun v _ hv => ⟨Or.inl hv.1, Or.inr ⟨FR.mo hv.2.1 (by decide) (by decide) (by decide) (by decide), hv.1.2⟩, OTF_fr hv.2.1 (by decide), hv.2.2⟩)
theorem top_e (h1 : F w 133 = p) (h2 : A w 92 p = ((opM : Nat) : Int)) (hp : p < 24) (ho : opM ≤ 46000) (hk : k < opM) : fm_M_top N w (I k) = some (w, w.2.2.2 91 (46000 * p + (opM - 1 - k))) := by
  unfold fm_M_top fb_M_top_0
  rw [I_F' h1, inb_at (k := 92) (n := 24) rfl (by omega) (by omega) (by decide), ck_t, I_tn (x := (p : Int)) (by omega) (by omega), Int.toNat_natCast, I_A' h2, show (46000 : Int32) = I 46000 from rfl, I_mul, I_add, lit1q, I_sub, I_sub, inb_at (k := 91) (n := 1104000) rfl (by omega) (by omega) (by decide), ck_t, I_tn (by omega) (by omega), show ((p : Int) * 46000 + (opM : Int) - 1 - (k : Int)).toNat = 46000 * p + (opM - 1 - k) from by omega]
theorem smm_ext {c d : Nat → Nat} {a b : Nat} : ∀ k, (∀ j, j < k → c (a + j) = d (b + j)) → smm c a k = smm d b k := by
  intro k
  induction k with
  | zero => intro _; rfl
  | succ k ih => intro h; show smm c a k + c (a + k) = smm d b k + d (b + k); rw [ih (fun j hj => h j (by omega)), h k (by omega)]
theorem smm_first {c : Nat → Nat} {a : Nat} : ∀ k, smm c a (k + 1) = c a + smm c (a + 1) k := by
  intro k
  induction k with
  | zero => show 0 + c (a + 0) = c a + 0; simp
  | succ k ih =>
    show smm c a (k + 1) + c (a + (k + 1)) = c a + (smm c (a + 1) k + c (a + 1 + k))
    rw [ih, show a + (k + 1) = a + 1 + k from by omega]; omega
theorem smm_rev {c : Nat → Nat} : ∀ k, smm (fun j => c (k - 1 - j)) 0 k = smm c 0 k := by
  intro k
  induction k with
  | zero => rfl
  | succ k ih =>
    rw [smm_first]
    show c (k + 1 - 1 - 0) + smm (fun j => c (k + 1 - 1 - j)) (0 + 1) k = smm c 0 k + c (0 + k)
    rw [smm_ext (d := fun j => c (k - 1 - j)) (b := 0) k (fun j hj => by show c (k + 1 - 1 - (0 + 1 + j)) = c (k - 1 - (0 + j)); congr 1; omega), ih]
    simp; omega
end
end
section
section
variable {Fv : Int64 → Int64 → Prop} {P : Int64 → Prop} {u v w w2 : MS} {PR N p n n2 opM bnM bxM bx2 ND fr k tp mu CN PN SN UN FN rq q m h mm : Nat} {ow kd ow2 kd2 ro rn rh cb pc ct pM pE : Nat → Nat} {T : TY} {C : CY}
theorem va_w {x : Int32} : va x.toInt64 = x.toInt := by
  unfold va
  rw [Int32.toInt32_toInt64]
set_option maxRecDepth 100000 in
theorem tup2 {a : Nat} (e : ERX Fv P PR T C ND CN p v fr ro rn rh cb pc ct q n ow kd opM bnM bxM mu) (hH : tH T q ≤ 760) (hq : tB T q + a ≤ tH T q) (ha : a ≤ 8) (hm : m < ND) (hx : NX T q m (tH T q + 1 - a) (tM T q)) (h98 : A v 98 (60 * p + (fr - 1)) = ((m : Nat) : Int)) (ho : opM = ro (fr - 1) + tH T q) (hb : bnM = rn (fr - 1) + rh (fr - 1) + tM T q) (h5 : n + (1 + a) ≤ 500)
    (hs : ∀ f c, (∀ j, j < a → SZ (hp v p) n ow kd Fv P f (v.2.2.2 91 (46000 * p + (opM - a + j))) (c j)) → 1 + a + smm c 0 a ≤ 500) : ∀ k j w M, j + k = a → k < M → FR [] [] [89] [88] v w → (∀ z, A w 89 z = if z = p then ((n + (1 + a) : Nat) : Int) else A v 89 z) → hp w p n = (I a).toInt64 → (∀ i, i < j → hp w p (n + (1 + i)) = v.2.2.2 91 (46000 * p + (opM - a + i))) → (∀ i, ¬ (500 * p + n ≤ i ∧ i < 500 * p + n + (1 + a)) → w.2.2.2 88 i = v.2.2.2 88 i) → OK (fun w2 _ => RES Fv P PR T C ND CN p mu v w2) ((gg_M_tupleRun N M).2 w (I a) (I n) (I j)) := by
  have i := e.1
  have x4 := MEI_p i
  have hf := e.2.1.1
  have hro := (e.2.1.2.2.1 (fr - 1) (by omega)).2.2.2.2.1
  obtain ⟨m1, m2, m3, m4, m5, ⟨x1, x2, x3, x4', x5, x6, x7, x8, x9, x10, x11⟩⟩ := id i
  intro k
  induction k with
  | zero =>
    intro j w M hj hM f h89 c0 cj out
    obtain rfl : j = a := by omega
    obtain ⟨M, rfl⟩ : ∃ M', M = M' + 1 := ⟨M - 1, by omega⟩
    show OK _ (fb_M_tupleRun_111 N (gg_M_tupleRun N M) w (I j) (I n) (I j))
    unfold fb_M_tupleRun_111
    have w133 : F w 133 = p := by rw [FR.F f (by decide)]; exact m3
    have w92 : A w 92 p = ((opM : Nat) : Int) := by rw [FR.A f (by decide)]; exact x5.1
    rw [decI (by omega) (by omega) (by omega) (by omega), decide_eq_true (by omega), br_tq, I_F' w133, inb_at (k := 92) (n := 24) rfl (by omega) (by omega) (by decide), ck_t, ck_t, lt_e, I_tn (x := (p : Int)) (by omega) (by omega), Int.toNat_natCast, I_A' w92, I_sub, show (opM : Int) - (j : Int) = ((opM - j : Nat) : Int) from by omega, wa_e, show (5 : Int32) = I 5 from rfl, term_e, bnd_so]
    have e5 : so (mk 5 (n : Int)) = 5 := so_mk (by omega) (by omega)
    have v5 : va (mk 5 (n : Int)) = n := va_mk (by omega) (by omega)
    have n5 : vn (mk 5 (n : Int)) = n := by unfold vn; rw [v5]; omega
    have vc : va (I (j : Int)).toInt64 = (j : Int) := by rw [va_w, I_ti (by omega) (by omega)]
    have bb : blk (hp w p) (mk 5 (n : Int)) = 1 + j := by unfold blk; rw [e5, n5, c0]; simp; unfold vn; rw [vc]; omega
    have pp : prt (mk 5 (n : Int)) = 1 := by unfold prt; rw [e5]; rfl
    have cc : ∀ i, 1 ≤ i → i < 1 + j → hp w p (n + i) = v.2.2.2 91 (46000 * p + (opM - j + (i - 1))) := fun i h1 h2 => by
      have := cj (i - 1) (by omega)
      rw [show 1 + (i - 1) = i from by omega] at this
      exact this
    obtain ⟨ow2, kd2, r1, r2, r3, -⟩ := MEI_alloc (m := 1 + j) (x := mk 5 (n : Int)) i f h89 h5 out (Or.inr (Or.inl e5)) (by omega) n5 bb (fun _ => by rw [c0]; exact ⟨by rw [vc]; omega, by rw [vc, Int32.toInt_toInt64]; exact I_ti (by omega) (by omega)⟩) (fun e => by omega) (fun i h1 h2 => by rw [pp] at h1; rw [cc i h1 h2]; exact x8 _ (by omega)) (Or.inr (fun f2 c hc => by
      rw [pp]
      have := hs f2 (fun i => c (1 + i)) (fun i hi => by have := hc (1 + i) (by rw [pp]; omega) (by omega); rw [cj i hi] at this; exact this)
      rw [smm_ext (c := c) (a := 1) (d := fun i => c (1 + i)) (b := 0) (1 + j - 1) (fun i _ => by show c (1 + i) = c (1 + (0 + i)); rw [Nat.zero_add]), show 1 + j - 1 = j from by omega]
      exact this))
    have r1' := ops_less r1 (k := opM - j) (by omega)
    have f2 : FR [] [] [89, 92] [88] v (wa w 92 p ((opM - j : Nat) : Int)) := FR.wa (FR.mo f (by decide) (by decide) (by decide) (by decide)) (by decide)
    have o2 : OTF p v (wa w 92 p ((opM - j : Nat) : Int)) := OTF.tr (OTF_fr f (by decide)) (OTF_at (FR.wa FR.rf (by decide) : FR [] [] [92] [] w _) (i0 := p) (fun j hj => by rw [A_eq (by omega) (by omega), if_neg hj]) (Or.inl ⟨by decide, rfl⟩))
    generalize wa w 92 p ((opM - j : Nat) : Int) = w2 at *
    have e2 := ERX_fr e f2 (by decide) (by decide) (by decide) r1' (by omega) (by omega)
    exact ok_bnd.mpr (ok_mono (putR (N := N) e2 hm hx (by rw [FR.A f2 (by decide)]; exact h98) (by omega) hb r2 (by omega)) (fun y _ hy => ok_some.mpr (RES.pre f2 o2 (by decide) (by decide) (by decide) (by decide) hy)))
  | succ k ih =>
    intro j w M hj hM f h89 c0 cj out
    obtain ⟨M, rfl⟩ : ∃ M', M = M' + 1 := ⟨M - 1, by omega⟩
    show OK _ (fb_M_tupleRun_111 N (gg_M_tupleRun N M) w (I a) (I n) (I j))
    unfold fb_M_tupleRun_111
    have w133 : F w 133 = p := by rw [FR.F f (by decide)]; exact m3
    have w92 : A w 92 p = ((opM : Nat) : Int) := by rw [FR.A f (by decide)]; exact x5.1
    rw [decI (by omega) (by omega) (by omega) (by omega), decide_eq_false (by omega), br_fq, I_F' w133, lit1q, I_sub, I_sub, show (a : Int) - 1 - (j : Int) = ((a - 1 - j : Nat) : Int) from by omega, top_e w133 w92 (by omega) (by omega) (by omega), bnd_so, lit500, I_mul, I_add, I_add, I_add, inb_at (k := 88) (n := 12500) rfl (by omega) (by omega) (by decide), ck_t, lt_e, I_tn (by omega) (by omega), show ((p : Int) * 500 + (n : Int) + 1 + (j : Int)).toNat = 500 * p + (n + (1 + j)) from by omega, wj_e, I_add, show (j : Int) + 1 = ((j + 1 : Nat) : Int) from by omega, show opM - 1 - (a - 1 - j) = opM - a + j from by omega, f.2.2.2 91 (by decide)]
    refine ih (j + 1) _ M (by omega) (by omega) (FR.wj f (by decide)) h89 (by rw [hp_wj, if_neg (by omega)]; exact c0) (fun i hi => ?_) (fun i hi => by rw [J_wj, if_pos rfl, if_neg (by omega)]; exact out i hi)
    rw [hp_wj]
    by_cases z : i = j
    · subst z; rw [if_pos rfl]
    · rw [if_neg (by omega)]; exact cj i (by omega)
def cap (c : Nat → Nat) (j : Nat) : Nat := if c j ≤ 500 then c j else 501
theorem cap_le {c : Nat → Nat} : ∀ k, smm (cap c) 0 k ≤ 501 * k := by
  intro k
  induction k with
  | zero => exact Nat.le_refl _
  | succ k ih =>
    show smm (cap c) 0 k + cap c (0 + k) ≤ _
    have : cap c (0 + k) ≤ 501 := by unfold cap; split <;> omega
    omega
theorem cap_eq {c : Nat → Nat} : ∀ k, smm (cap c) 0 k ≤ 500 → smm c 0 k = smm (cap c) 0 k := by
  intro k
  induction k with
  | zero => intro _; rfl
  | succ k ih =>
    intro h
    have h' : smm (cap c) 0 k + cap c (0 + k) ≤ 500 := h
    show smm c 0 k + c (0 + k) = smm (cap c) 0 k + cap c (0 + k)
    rw [ih (by omega)]
    have : cap c (0 + k) = c (0 + k) := by
      unfold cap at h' ⊢
      split
      · rfl
      · next z => rw [if_neg z] at h'; omega
    omega
theorem top_sz {a : Nat} (i : MEI Fv P PR u p n ow kd opM bnM bxM) (ha : a ≤ opM) : ∃ f : Nat, ∃ c : Nat → Nat, ∀ j, j < a → SZ (hp u p) n ow kd Fv P f (u.2.2.2 91 (46000 * p + (opM - 1 - j))) (c j) := by
  obtain ⟨m1, m2, m3, m4, m5, ⟨x1, x2, x3, x4', x5, x6, x7, x8, x9, x10, x11⟩⟩ := i
  exact SZ_all (fun j hj => HP_sz x2 (x8 _ (by omega)))
theorem copyE {j a f : Nat} {c : Nat → Nat} (i : MEI Fv P PR u p n ow kd opM bnM bxM) (hc : ∀ j, j < a → SZ (hp u p) n ow kd Fv P f (u.2.2.2 91 (46000 * p + (opM - 1 - j))) (c j)) (hj : j < a) (ha : a ≤ opM) (f1 : FR [] [] [] [141] u w) (hN : 60000 ≤ N) {α : Type} {Q : MS → α → Prop} {g : MS → Int32 → Option (MS × α)} (h : ∀ v, FR [] [] [] [141] u v → OK Q (g v (I ((cap c j : Nat) : Int)))) : OK Q (bnd (fm_M_top N w (I j)) (fun u12 r12 => bnd (fm_M_copySize N u12 (w.1 133) r12) (fun u13 r13 => g u13 r13))) := by
  obtain ⟨m1, m2, m3, m4, m5, ⟨x1, x2, x3, x4', x5, x6, x7, x8, x9, x10, x11⟩⟩ := i
  have hpw : hp w p = hp u p := by unfold hp; rw [f1.2.2.2 88 (by decide)]
  have w133 : F w 133 = p := by rw [FR.F f1 (by decide)]; exact m3
  rw [top_e w133 (by rw [FR.A f1 (by decide)]; exact x5.1) x4' x5.2 (by omega), bnd_so, I_F' w133, f1.2.2.2 91 (by decide)]
  refine ok_bnd.mpr (ok_mono (copySize_ok (N := N) (Fv := Fv) (P := P) (n := n) (ow := ow) (kd := kd) (f := f) (s := c j) (by rw [hpw]; exact x2) x3 (by omega) (by rw [hpw]; exact hc j hj) (by omega)) (fun v r hv => ?_))
  obtain ⟨v1, v2⟩ := hv
  rw [v2]
  exact h v (FR.tr f1 v1)
set_option maxRecDepth 100000 in
theorem i4 {a : Nat} (e : ERX Fv P PR T C ND CN p u fr ro rn rh cb pc ct q n ow kd (ro (fr - 1) + tH T q) (rn (fr - 1) + rh (fr - 1) + tM T q) bxM mu) (hp' : PGM Fv P PR T C pM pE ND CN PN SN UN FN u) (hq : tB T q + a ≤ tH T q) (ha : a ≤ 8) (hm : m < ND) (hx : NX T q m (tH T q + 1 - a) (tM T q)) (h98 : A u 98 (60 * p + (fr - 1)) = ((m : Nat) : Int)) (hN : 60000 ≤ N) : OK (fun v _ => RES Fv P PR T C ND CN p mu u v) (fm_M_tupleRun N u (I a)) := by
  have i := e.1
  have x4 := MEI_p i
  have hH := (hp'.1.2.2.1 q e.2.2.1).1.1
  have hf := e.2.1.1
  have hro := (e.2.1.2.2.1 (fr - 1) (by omega)).2.2.2.2.1
  obtain ⟨f0, c, hc⟩ := top_sz (a := a) i (by omega)
  have L1 : ∀ k j w M, j + k = a → k + a + 2 ≤ M → FR [] [] [] [141] u w → OK (fun v _ => RES Fv P PR T C ND CN p mu u v) ((gg_M_tupleRun N M).1 w (I a) (I ((1 + a + smm (cap c) 0 j : Nat) : Int)) (I j)) := by
    intro k
    induction k with
    | zero =>
      intro j w M hj hM f1
      obtain rfl : j = a := by omega
      obtain ⟨M, rfl⟩ : ∃ M', M = M' + 1 := ⟨M - 1, by omega⟩
      have cl := cap_le (c := c) j
      show OK _ (fb_M_tupleRun_6 N (gg_M_tupleRun N M) w (I j) (I ((1 + j + smm (cap c) 0 j : Nat) : Int)) (I j))
      unfold fb_M_tupleRun_6
      have hpw : hp w p = hp u p := by unfold hp; rw [f1.2.2.2 88 (by decide)]
      have iw : MEI Fv P PR w p n ow kd (ro (fr - 1) + tH T q) (rn (fr - 1) + rh (fr - 1) + tM T q) bxM := MEI_fr i f1 (by decide) (by decide) (by decide) (by decide) (by decide) (by decide) (by decide) (by decide) (by decide) (by decide) (by decide) (by decide) (by decide) (by decide) (by decide) (by decide) (by decide) (by decide)
      have ew := ERX_fr e f1 (by decide) (by decide) (by decide) iw (by omega) (Nat.le_refl _)
      have o1 : OTF p u w := OTF_fr f1 (by decide)
      rw [decI (by omega) (by omega) (by omega) (by omega), decide_eq_true (by omega), br_tq, lit500, decI (by omega) (by omega) (by omega) (by omega)]
      refine ok_br.mpr ⟨fun z => ?_, fun _ => ok_bnd.mpr (ok_mono (err_ok (N := N) (a := 11) ew (PGM_fr hp' f1 (by decide) (by decide)) (by omega) hN) (fun y _ hy => ok_some.mpr (RES.pre f1 o1 (by decide) (by decide) (by decide) (by decide) hy)))⟩
      have z' : 1 + j + smm (cap c) 0 j ≤ 500 := by have := of_decide_eq_true z; omega
      rw [I_F' iw.2.2.1, lit1q, I_add, show (1 : Int) + (j : Int) = ((1 + j : Nat) : Int) from by omega]
      refine ok_bnd.mpr (ok_mono (wantsE (N := N) ew (k := 1 + j) (by omega) hN) (fun v r hv => ?_))
      obtain ⟨n2, ow2, kd2, fd, v1, v2, v3, v4⟩ := hv
      have fu : FR [136, 138] [139] [89, 90, 135] [88, 91, 93, 107, 134, 137, 141] u v := FR.tr (FR.mo f1 (by decide) (by decide) (by decide) (by decide)) (FR.mo v2 (by decide) (by decide) (by decide) (by decide))
      have ou : OTF p u v := OTF_fr fu (by decide)
      have pre : ∀ y, RES Fv P PR T C ND CN p mu v y → RES Fv P PR T C ND CN p mu u y := fun y hy => RES.pre fu ou (by decide) (by decide) (by decide) (by decide) hy
      refine ok_br.mpr ⟨fun _ => ok_bnd.mpr (ok_mono (noRoomR (N := N) v1 hp'.2.1) (fun y _ hy => ok_some.mpr (pre y hy))), fun zr => ?_⟩
      have h5 : n2 + (1 + j) ≤ 500 := by
        rcases v4 with ⟨-, y⟩ | y
        · exact y
        · exact absurd y (of_decide_eq_false zr)
      have v89 := v1.1.2.2.2.2.1
      have v133 := v1.1.2.2.1
      rw [I_F' v133]
      refine ok_ck.mpr ⟨inb_at (k := 89) (n := 25) rfl (by omega) (by omega) (by decide), ok_lt.mpr (ok_ck.mpr ⟨inb_at (k := 89) (n := 25) rfl (by omega) (by omega) (by decide), ok_ck.mpr ⟨inb_at (k := 89) (n := 25) rfl (by omega) (by omega) (by decide), ok_lt.mpr ?_⟩⟩)⟩
      rw [I_tn (x := (p : Int)) (by omega) (by omega), Int.toNat_natCast, I_A' v89, I_add, show (n2 : Int) + ((1 + j : Nat) : Int) = ((n2 + (1 + j) : Nat) : Int) from by omega, wa_e]
      rw [show (wa v 89 p ((n2 + (1 + j) : Nat) : Int)).1 133 = I p from I_F' v133, I_mul, I_add, show (0 : Int32) = I ((0 : Nat) : Int) from rfl]
      refine ok_ck.mpr ⟨inb_at (k := 88) (n := 12500) rfl (by omega) (by omega) (by decide), ok_lt.mpr ?_⟩
      rw [I_tn (by omega) (by omega), show ((p : Int) * 500 + (n2 : Int)).toNat = 500 * p + n2 from by omega, wj_e]
      refine ok_mono (tup2 (N := N) (a := j) (m := m) v1 hH hq ha hm hx (by rw [FR.A fu (by decide)]; exact h98) rfl rfl h5 (fun f2 d hd => ?_) j 0 _ M (by omega) (by omega) (FR.wj (FR.wa FR.rf (by decide)) (by decide)) (fun z => by rw [A_wj, A_eq (by omega) (by omega)]) (by rw [hp_wj, if_pos rfl]) (fun i hi => absurd hi (Nat.not_lt_zero i)) (fun i hi => by rw [J_wj, if_pos rfl, if_neg (by omega)]; rfl)) (fun y _ hy => pre y hy)
      have hd2 : ∀ i, i < j → d i = c (j - 1 - i) := fun i hi => by
        have h1 := hd i hi
        have h2 := hc (j - 1 - i) (by omega)
        have h3 := v3.2.2.1 (ro (fr - 1) + tH T q - j + i) f0 (c (j - 1 - i)) (by omega) (by rw [hpw, f1.2.2.2 91 (by decide)]; rw [show ro (fr - 1) + tH T q - j + i = ro (fr - 1) + tH T q - 1 - (j - 1 - i) from by omega]; exact h2)
        rw [v3.1 _ (by omega)] at h1
        exact SZ_fun h1 h3
      rw [smm_ext (c := d) (a := 0) (d := fun i => c (j - 1 - i)) (b := 0) j (fun i hi => by rw [Nat.zero_add]; exact hd2 i hi), smm_rev, cap_eq j (by omega)]
      exact z'
    | succ k ih =>
      intro j w M hj hM f1
      obtain ⟨M, rfl⟩ : ∃ M', M = M' + 1 := ⟨M - 1, by omega⟩
      have cl := cap_le (c := c) j
      have cl2 := cap_le (c := c) (j + 1)
      show OK _ (fb_M_tupleRun_6 N (gg_M_tupleRun N M) w (I a) (I ((1 + a + smm (cap c) 0 j : Nat) : Int)) (I j))
      unfold fb_M_tupleRun_6
      rw [decI (by omega) (by omega) (by omega) (by omega), decide_eq_false (by omega), br_fq]
      refine copyE i hc (by omega) (by omega) f1 hN (g := fun u13 r13 => (gg_M_tupleRun N M).1 u13 (I a) (I ((1 + a + smm (cap c) 0 j : Nat) : Int) + r13) (I j + 1)) (fun v fv => ?_)
      show OK _ ((gg_M_tupleRun N M).1 v (I a) (I ((1 + a + smm (cap c) 0 j : Nat) : Int) + I ((cap c j : Nat) : Int)) (I j + 1))
      rw [I_add, lit1q, I_add, show (j : Int) + 1 = ((j + 1 : Nat) : Int) from by omega, show ((1 + a + smm (cap c) 0 j : Nat) : Int) + ((cap c j : Nat) : Int) = ((1 + a + smm (cap c) 0 (j + 1) : Nat) : Int) from by
        show _ = ((1 + a + (smm (cap c) 0 j + cap c (0 + j)) : Nat) : Int)
        rw [Nat.zero_add]; omega]
      exact ih (j + 1) v M (by omega) (by omega) fv
  unfold fm_M_tupleRun fb_M_tupleRun_0
  rw [lit1q, I_add, lit0q, show (0 : Int) = ((0 : Nat) : Int) from rfl, show (1 : Int) + (a : Int) = ((1 + a + smm (cap c) 0 0 : Nat) : Int) from by show _ = ((1 + a + 0 : Nat) : Int); omega]
  exact L1 a 0 u N (by omega) (by omega) FR.rf
end
end
section
section
variable {Fv : Int64 → Int64 → Prop} {P : Int64 → Prop} {u v w w2 : MS} {PR N p n n2 opM bnM bxM bx2 ND fr k tp mu CN PN SN UN FN rq q m h mm : Nat} {ow kd ow2 kd2 ro rn rh cb pc ct pM pE : Nat → Nat} {T : TY} {C : CY}
theorem lst2 {a bs : Nat} (e : ERX Fv P PR T C ND CN p v fr ro rn rh cb pc ct q n ow kd opM bnM bxM mu) (hB : ro (fr - 1) + tB T q ≤ bs) (hb : bnM = rn (fr - 1) + rh (fr - 1) + mm) (hm : m < ND) (hx : NX T q m h mm) (hh : bs + 1 = ro (fr - 1) + h) (hc : bs < 46000) (h98 : A v 98 (60 * p + (fr - 1)) = ((m : Nat) : Int)) (hMn : mm = tM T q) (ha : a ≤ 1000) : ∀ k j w M nn ow2 kd2 f g t s c, j + k = a → k < M → FR [] [] [89, 92] [88] v w → OTF p v w → MEI Fv P PR w p nn ow2 kd2 (bs + k) bnM bxM → SZ (hp w p) nn ow2 kd2 Fv P f t s → (∀ i, i < k → SZ (hp w p) nn ow2 kd2 Fv P g (w.2.2.2 91 (46000 * p + (bs + i))) (c i)) → 2 * k + s + smm c 0 k ≤ 500 → nn + 2 * k ≤ 500 → OK (fun w2 _ => RES Fv P PR T C ND CN p mu v w2) ((gg_M_listRun N M).2 w (I a) t (I j)) := by
  intro k
  induction k with
  | zero =>
    intro j w M nn ow2 kd2 f g t s c hj hM fw o i zt zc hs hn
    obtain rfl : j = a := by omega
    obtain ⟨M, rfl⟩ : ∃ M', M = M' + 1 := ⟨M - 1, by omega⟩
    show OK _ (fb_M_listRun_94 N (gg_M_listRun N M) w (I j) t (I j))
    unfold fb_M_listRun_94
    rw [decI (by omega) (by omega) (by omega) (by omega), decide_eq_true (by omega), br_tq]
    have e2 := ERX_fr e fw (by decide) (by decide) (by decide) i (by omega) (by omega)
    exact ok_bnd.mpr (ok_mono (putR (N := N) e2 hm hx (by rw [FR.A fw (by decide)]; exact h98) (by omega) hb (SZ_gt zt) (by omega)) (fun y _ hy => ok_some.mpr (RES.pre fw o (by decide) (by decide) (by decide) (by decide) hy)))
  | succ k ih =>
    intro j w M nn ow2 kd2 f g t s c hj hM fw o i zt zc hs hn
    obtain ⟨M, rfl⟩ : ∃ M', M = M' + 1 := ⟨M - 1, by omega⟩
    have x4 := MEI_p i
    have om : bs + (k + 1) ≤ 46000 := i.2.2.2.2.2.2.2.2.2.1.2
    show OK _ (fb_M_listRun_94 N (gg_M_listRun N M) w (I a) t (I j))
    unfold fb_M_listRun_94
    rw [decI (by omega) (by omega) (by omega) (by omega), decide_eq_false (by omega), br_fq]
    have hs' : 2 * (k + 1) + s + (smm c 0 k + c (0 + k)) ≤ 500 := hs
    rw [Nat.zero_add] at hs'
    refine ok_bnd.mpr (ok_mono (take_ok (N := N) (opM := bs + k) i) (fun w3 r hw => ?_))
    obtain ⟨w1, w2', w3', w4⟩ := hw
    have f3 : FR [] [] [89, 92] [88] v w3 := by rw [w1]; exact FR.wa fw (by decide)
    have o3 : OTF p v w3 := OTF.tr o (OTF_at (show FR [] [] [92] [] w w3 from by rw [w1]; exact FR.wa FR.rf (by decide)) (i0 := p) (fun j hj => by rw [w1, A_eq (by omega) (by omega), if_neg hj]) (Or.inl ⟨by decide, rfl⟩))
    have hp3 : hp w3 p = hp w p := by rw [w1]; rfl
    have j91 : w3.2.2.2 91 = w.2.2.2 91 := by rw [w1]; rfl
    refine ok_bnd.mpr (ok_mono (pair_ok (N := N) (f := g + f) (sa := c k) (sb := s) (a := r) (b := t) w4 (by rw [hp3, w2']; exact SZ_le (zc k (by omega)) (by omega)) (by rw [hp3]; exact SZ_le zt (by omega)) (by omega) (by omega)) (fun v4 r4 hv => ?_))
    obtain ⟨f4, y1, ow3, kd3, f2, y2, y3, y4, y5⟩ := hv
    rw [y1, show (7 : Int32) = I 7 from rfl, term_e, bnd_so, lit1q, I_add, show (j : Int) + 1 = ((j + 1 : Nat) : Int) from by omega]
    refine ih (j + 1) v4 M (nn + 2) ow3 kd3 f2 g (mk 7 nn) (2 + c k + s) c (by omega) (by omega) (FR.tr f3 (FR.mo f4 (by decide) (by decide) (by decide) (by decide))) (OTF.tr o3 (OTF_fr f4 (by decide))) y2 y3 (fun i hi => ?_) (by omega) (by omega)
    rw [f4.2.2.2 91 (by decide), j91]
    exact y5 _ _ _ (by rw [hp3]; exact zc i (by omega))
theorem i5 {a b : Nat} (e : ERX Fv P PR T C ND CN p u fr ro rn rh cb pc ct q n ow kd (ro (fr - 1) + tH T q) (rn (fr - 1) + rh (fr - 1) + tM T q) bxM mu) (hp' : PGM Fv P PR T C pM pE ND CN PN SN UN FN u) (hq : tB T q + (a + b) ≤ tH T q) (ha : a ≤ 8) (hb1 : b ≤ 1) (hm : m < ND) (hx : NX T q m (tH T q + 1 - (a + b)) (tM T q)) (h98 : A u 98 (60 * p + (fr - 1)) = ((m : Nat) : Int)) (hN : 60000 ≤ N) : OK (fun v _ => RES Fv P PR T C ND CN p mu u v) (fm_M_listRun N u (I a) (I b)) := by
  have i := e.1
  have x4 := MEI_p i
  have hH := (hp'.1.2.2.1 q e.2.2.1).1.1
  have hf := e.2.1.1
  have hro := (e.2.1.2.2.1 (fr - 1) (by omega)).2.2.2.2.1
  obtain ⟨f0, c, hc⟩ := top_sz (a := a + b) i (by omega)
  have L1 : ∀ k j w M, j + k = a + b → k + a + 3 ≤ M → FR [] [] [] [141] u w → OK (fun v _ => RES Fv P PR T C ND CN p mu u v) ((gg_M_listRun N M).1 w (I a) (I b) (I ((2 * a + smm (cap c) 0 j : Nat) : Int)) (I j)) := by
    intro k
    induction k with
    | zero =>
      intro j w M hj hM f1
      obtain rfl : j = a + b := by omega
      obtain ⟨M, rfl⟩ : ∃ M', M = M' + 1 := ⟨M - 1, by omega⟩
      have cl := cap_le (c := c) (a + b)
      show OK _ (fb_M_listRun_7 N (gg_M_listRun N M) w (I a) (I b) (I ((2 * a + smm (cap c) 0 (a + b) : Nat) : Int)) (I ((a + b : Nat) : Int)))
      unfold fb_M_listRun_7
      have hpw : hp w p = hp u p := by unfold hp; rw [f1.2.2.2 88 (by decide)]
      have iw : MEI Fv P PR w p n ow kd (ro (fr - 1) + tH T q) (rn (fr - 1) + rh (fr - 1) + tM T q) bxM := MEI_fr i f1 (by decide) (by decide) (by decide) (by decide) (by decide) (by decide) (by decide) (by decide) (by decide) (by decide) (by decide) (by decide) (by decide) (by decide) (by decide) (by decide) (by decide) (by decide)
      have ew := ERX_fr e f1 (by decide) (by decide) (by decide) iw (by omega) (Nat.le_refl _)
      have o1 : OTF p u w := OTF_fr f1 (by decide)
      rw [I_add, decI (by omega) (by omega) (by omega) (by omega), decide_eq_true (by omega), br_tq, lit500, decI (by omega) (by omega) (by omega) (by omega)]
      refine ok_br.mpr ⟨fun z => ?_, fun _ => ok_bnd.mpr (ok_mono (err_ok (N := N) (a := 11) ew (PGM_fr hp' f1 (by decide) (by decide)) (by omega) hN) (fun y _ hy => ok_some.mpr (RES.pre f1 o1 (by decide) (by decide) (by decide) (by decide) hy)))⟩
      have z' : 2 * a + smm (cap c) 0 (a + b) ≤ 500 := by have := of_decide_eq_true z; omega
      rw [I_F' iw.2.2.1, show (2 : Int32) = I 2 from rfl, I_mul, show (2 : Int) * (a : Int) = ((2 * a : Nat) : Int) from by omega]
      refine ok_bnd.mpr (ok_mono (wantsE (N := N) ew (k := 2 * a) (by omega) hN) (fun v r hv => ?_))
      obtain ⟨n2, ow2, kd2, fd, v1, v2, v3, v4⟩ := hv
      have fu : FR [136, 138] [139] [89, 90, 135] [88, 91, 93, 107, 134, 137, 141] u v := FR.tr (FR.mo f1 (by decide) (by decide) (by decide) (by decide)) (FR.mo v2 (by decide) (by decide) (by decide) (by decide))
      have ou : OTF p u v := OTF_fr fu (by decide)
      have pre : ∀ y, RES Fv P PR T C ND CN p mu v y → RES Fv P PR T C ND CN p mu u y := fun y hy => RES.pre fu ou (by decide) (by decide) (by decide) (by decide) hy
      refine ok_br.mpr ⟨fun _ => ok_bnd.mpr (ok_mono (noRoomR (N := N) v1 hp'.2.1) (fun y _ hy => ok_some.mpr (pre y hy))), fun zr => ?_⟩
      have h5 : n2 + 2 * a ≤ 500 := by
        rcases v4 with ⟨-, y⟩ | y
        · exact y
        · exact absurd y (of_decide_eq_false zr)
      have sz : ∀ i, i < a + b → SZ (hp v p) n2 ow2 kd2 Fv P f0 (v.2.2.2 91 (46000 * p + (ro (fr - 1) + tH T q - (a + b) + i))) (c (a + b - 1 - i)) := fun i hi => by
        have h2 := hc (a + b - 1 - i) (by omega)
        have h3 := v3.2.2.1 (ro (fr - 1) + tH T q - (a + b) + i) f0 (c (a + b - 1 - i)) (by omega) (by rw [hpw, f1.2.2.2 91 (by decide)]; rw [show ro (fr - 1) + tH T q - (a + b) + i = ro (fr - 1) + tH T q - 1 - (a + b - 1 - i) from by omega]; exact h2)
        rw [v3.1 _ (by omega)]
        exact h3
      have sum : smm (fun i => c (a + b - 1 - i)) 0 (a + b) = smm (cap c) 0 (a + b) := by rw [smm_rev, cap_eq _ (by omega)]
      have h98v : A v 98 (60 * p + (fr - 1)) = ((m : Nat) : Int) := by rw [FR.A fu (by decide)]; exact h98
      rw [show (1 : Int32) = I 1 from rfl, decE (by omega) (by omega) (by omega) (by omega)]
      refine ok_br.mpr ⟨fun zb => ?_, fun zb => ?_⟩
      · obtain rfl : b = 1 := by have := of_decide_eq_true zb; omega
        have v1' := v1
        rw [show ro (fr - 1) + tH T q = ro (fr - 1) + tH T q - 1 + 1 from by omega] at v1'
        refine ok_bnd.mpr (ok_mono (take_ok (N := N) v1'.1) (fun w3 r hw => ?_))
        obtain ⟨w1, w2', w3', w4⟩ := hw
        have f3 : FR [] [] [92] [] v w3 := by rw [w1]; exact FR.wa FR.rf (by decide)
        have o3 : OTF p v w3 := OTF_at f3 (i0 := p) (fun j hj => by rw [w1, A_eq (by omega) (by omega), if_neg hj]) (Or.inl ⟨by decide, rfl⟩)
        have hp3 : hp w3 p = hp v p := by rw [w1]; rfl
        have j91 : w3.2.2.2 91 = v.2.2.2 91 := by rw [w1]; rfl
        unfold fb_M_listRun_89
        have sum' : smm (fun i => c (a + 1 - 1 - i)) 0 a + c (a + 1 - 1 - (0 + a)) = smm (cap c) 0 (a + 1) := sum
        have st := sz a (by omega)
        rw [show ro (fr - 1) + tH T q - (a + 1) + a = ro (fr - 1) + tH T q - 1 from by omega, ← w2'] at st
        rw [show (0 : Int32) = I ((0 : Nat) : Int) from rfl]
        rw [show ro (fr - 1) + tH T q - 1 = ro (fr - 1) + tH T q - (a + 1) + a from by omega] at w4
        refine ok_mono (lst2 (N := N) (a := a) (bs := ro (fr - 1) + tH T q - (a + 1)) (m := m) v1 (by omega) rfl hm hx (by omega) (by omega) h98v rfl (by omega) a 0 w3 M n2 ow2 kd2 f0 f0 r (c (a + 1 - 1 - a)) (fun i => c (a + 1 - 1 - i)) (by omega) (by omega) (FR.mo f3 (by decide) (by decide) (by decide) (by decide)) o3 w4 (by rw [hp3]; exact st) (fun i hi => by rw [hp3, j91]; exact sz i (by omega)) ?_ h5) (fun y _ hy => pre y hy)
        rw [Nat.zero_add] at sum'; omega
      · obtain rfl : b = 0 := by have := of_decide_eq_false zb; omega
        rw [show (6 : Int32) = I 6 from rfl, lit0q, term_e, bnd_so]
        unfold fb_M_listRun_89
        rw [show (0 : Int32) = I ((0 : Nat) : Int) from rfl]
        refine ok_mono (lst2 (N := N) (a := a) (bs := ro (fr - 1) + tH T q - a) (m := m) v1 (by omega) rfl hm hx (by omega) (by omega) h98v rfl (by omega) a 0 v M n2 ow2 kd2 1 f0 (mk 6 0) 0 (fun i => c (a + 0 - 1 - i)) (by omega) (by omega) FR.rf (OTF_fr (FR.rf : FR [] [] [] [] v v) (by decide)) (by rw [show ro (fr - 1) + tH T q - a + a = ro (fr - 1) + tH T q from by omega]; exact v1.1) (Or.inl ⟨nh_mk (by omega), hp'.2.1.2.2.2.2, rfl⟩) (fun i hi => sz i (by omega)) (by rw [show a = a + 0 from rfl]; rw [sum]; omega) h5) (fun y _ hy => pre y hy)
    | succ k ih =>
      intro j w M hj hM f1
      obtain ⟨M, rfl⟩ : ∃ M', M = M' + 1 := ⟨M - 1, by omega⟩
      have cl := cap_le (c := c) j
      have cl2 := cap_le (c := c) (j + 1)
      show OK _ (fb_M_listRun_7 N (gg_M_listRun N M) w (I a) (I b) (I ((2 * a + smm (cap c) 0 j : Nat) : Int)) (I j))
      unfold fb_M_listRun_7
      rw [I_add, decI (by omega) (by omega) (by omega) (by omega), decide_eq_false (by omega), br_fq]
      refine copyE i hc (by omega) (by omega) f1 hN (g := fun u13 r13 => (gg_M_listRun N M).1 u13 (I a) (I b) (I ((2 * a + smm (cap c) 0 j : Nat) : Int) + r13) (I j + 1)) (fun v fv => ?_)
      show OK _ ((gg_M_listRun N M).1 v (I a) (I b) (I ((2 * a + smm (cap c) 0 j : Nat) : Int) + I ((cap c j : Nat) : Int)) (I j + 1))
      rw [I_add, lit1q, I_add, show (j : Int) + 1 = ((j + 1 : Nat) : Int) from by omega, show ((2 * a + smm (cap c) 0 j : Nat) : Int) + ((cap c j : Nat) : Int) = ((2 * a + smm (cap c) 0 (j + 1) : Nat) : Int) from by
        show _ = ((2 * a + (smm (cap c) 0 j + cap c (0 + j)) : Nat) : Int)
        rw [Nat.zero_add]; omega]
      exact ih (j + 1) v M (by omega) (by omega) fv
  unfold fm_M_listRun fb_M_listRun_0
  rw [show (2 : Int32) = I 2 from rfl, I_mul, lit0q, show (0 : Int) = ((0 : Nat) : Int) from rfl, show (2 : Int) * (a : Int) = ((2 * a + smm (cap c) 0 0 : Nat) : Int) from by show _ = ((2 * a + 0 : Nat) : Int); omega]
  exact L1 (a + b) 0 u N (by omega) (by omega) FR.rf
theorem i2 {s : Nat} (e : ERX Fv P PR T C ND CN p u fr ro rn rh cb pc ct q n ow kd (ro (fr - 1) + tH T q) (rn (fr - 1) + rh (fr - 1) + tM T q) bxM mu) (hp' : PGM Fv P PR T C pM pE ND CN PN SN UN FN u) (hs : s < SN) (hm : m < ND) (hx : NX T q m (tH T q + 1) (tM T q)) (h98 : A u 98 (60 * p + (fr - 1)) = ((m : Nat) : Int)) (hN : 60000 ≤ N) : OK (fun v _ => RES Fv P PR T C ND CN p mu u v) (fm_M_stringRun N u (I s)) := by
  have i := e.1
  have x4 := MEI_p i
  have hH := (hp'.1.2.2.1 q e.2.2.1).1.1
  have hf := e.2.1.1
  have hro := (e.2.1.2.2.1 (fr - 1) (by omega)).2.2.2.2.1
  obtain ⟨s0, s1⟩ := hp'.1.2.1
  obtain ⟨s2, s3, s4⟩ := s1 s hs
  clear s1
  obtain ⟨L, hL⟩ : ∃ L : Nat, A u 19 (s + 1) - A u 19 s = (L : Int) := ⟨(A u 19 (s + 1) - A u 19 s).toNat, by omega⟩
  unfold fm_M_stringRun fb_M_stringRun_0
  rw [lit1q, I_add]
  refine ok_ck.mpr ⟨inb_at (k := 19) (n := 2002) rfl (by omega) (by omega) (by decide), ok_ck.mpr ⟨inb_at (k := 19) (n := 2002) rfl (by omega) (by omega) (by decide), ok_lt.mpr ?_⟩⟩
  rw [I_tn (x := (s : Int) + 1) (by omega) (by omega), show ((s : Int) + 1).toNat = s + 1 from by omega, I_tn (x := (s : Int)) (by omega) (by omega), Int.toNat_natCast, I_A (k := 19) (i := s + 1), I_A (k := 19) (i := s), I_sub, hL, I_F' i.2.2.1, show (2 : Int32) = I 2 from rfl, I_mul, show (2 : Int) * (L : Int) = ((2 * L : Nat) : Int) from by omega, I_sub]
  refine ok_bnd.mpr (ok_mono (wantsE (N := N) e (k := 2 * L) (by omega) hN) (fun v r hv => ?_))
  obtain ⟨n2, ow2, kd2, fd, v1, v2, v3, v4⟩ := hv
  have ou : OTF p u v := OTF_fr v2 (by decide)
  have pre : ∀ y, RES Fv P PR T C ND CN p mu v y → RES Fv P PR T C ND CN p mu u y := fun y hy => RES.pre v2 ou (by decide) (by decide) (by decide) (by decide) hy
  refine ok_br.mpr ⟨fun _ => ok_bnd.mpr (ok_mono (noRoomR (N := N) v1 hp'.2.1) (fun y _ hy => ok_some.mpr (pre y hy))), fun zr => ?_⟩
  have h5 : n2 + 2 * L ≤ 500 := by
    rcases v4 with ⟨-, y⟩ | y
    · exact y
    · exact absurd y (of_decide_eq_false zr)
  rw [show (6 : Int32) = I 6 from rfl, lit0q, term_e, bnd_so]
  have h98v : A v 98 (60 * p + (fr - 1)) = ((m : Nat) : Int) := by rw [FR.A v2 (by decide)]; exact h98
  have e19 : ∀ j, A v 19 j = A u 19 j := fun j => FR.A v2 (by decide)
  have lp : ∀ k w M nn ow2 kd2 f t sz, k < M → k ≤ L → FR [] [] [89] [88] v w → MEI Fv P PR w p nn ow2 kd2 (ro (fr - 1) + tH T q) (rn (fr - 1) + rh (fr - 1) + tM T q) bxM → SZ (hp w p) nn ow2 kd2 Fv P f t sz → 2 * k + sz ≤ 500 → nn + 2 * k ≤ 500 → OK (fun y _ => RES Fv P PR T C ND CN p mu v y) (gg_M_stringRun N M w (I s) t (I ((k : Int) - 1))) := by
    intro k
    induction k with
    | zero =>
      intro w M nn ow2 kd2 f t sz hM hk fw iw zt h1 h2
      obtain ⟨M, rfl⟩ : ∃ M', M = M' + 1 := ⟨M - 1, by omega⟩
      show OK _ (fb_M_stringRun_47 N (gg_M_stringRun N M) w (I s) t (I ((0 : Nat) - 1 : Int)))
      unfold fb_M_stringRun_47
      rw [lit0q, decL (by omega) (by omega) (by omega) (by omega), decide_eq_true (by omega), br_tq]
      have e2 := ERX_fr v1 fw (by decide) (by decide) (by decide) iw (by have := (hp'.1.2.2.1 q e.2.2.1).1.2.2.2.1; omega) (Nat.le_refl _)
      exact ok_bnd.mpr (ok_mono (putR (N := N) e2 hm hx (by rw [FR.A fw (by decide)]; exact h98v) (by omega) rfl (SZ_gt zt) (by omega)) (fun y _ hy => ok_some.mpr (RES.pre fw (OTF_fr fw (by decide)) (by decide) (by decide) (by decide) (by decide) hy)))
    | succ k ih =>
      intro w M nn ow2 kd2 f t sz hM hk fw iw zt h1 h2
      obtain ⟨M, rfl⟩ : ∃ M', M = M' + 1 := ⟨M - 1, by omega⟩
      show OK _ (fb_M_stringRun_47 N (gg_M_stringRun N M) w (I s) t (I (((k + 1 : Nat) : Int) - 1)))
      unfold fb_M_stringRun_47
      have w19 : A w 19 s = A u 19 s := by rw [FR.A fw (by decide), e19]
      rw [lit0q, decL (by omega) (by omega) (by omega) (by omega), decide_eq_false (by omega), br_fq]
      refine ok_ck.mpr ⟨inb_at (k := 19) (n := 2002) rfl (by omega) (by omega) (by decide), ?_⟩
      rw [I_tn (x := (s : Int)) (by omega) (by omega), Int.toNat_natCast, I_A' w19, I_add]
      refine ok_ck.mpr ⟨inb_at (k := 18) (n := 4002) rfl (by omega) (by omega) (by decide), ?_⟩
      rw [show I 0 = (0 : Int32) from rfl, term0_e, bnd_so]
      refine ok_bnd.mpr (ok_mono (pair_ok (N := N) (f := f) (sa := 0) (sb := sz) (b := t) iw (by
        cases f with
        | zero => exact zt.elim
        | succ f => exact Or.inl ⟨nh_mk (by omega), hp'.2.1.2.2.2.1 _ (ti_rng _).1 (ti_rng _).2, rfl⟩) zt (by omega) (by omega)) (fun v4 r4 hv => ?_))
      obtain ⟨f4, y1, ow3, kd3, f2, y2, y3, y4, y5⟩ := hv
      rw [y1, show (7 : Int32) = I 7 from rfl, term_e, bnd_so, litm1q, I_add, show ((k + 1 : Nat) : Int) - 1 + -1 = (k : Int) - 1 from by omega]
      exact ih v4 M (nn + 2) ow3 kd3 f2 (mk 7 nn) (2 + 0 + sz) (by omega) (by omega) (FR.tr fw f4) y2 y3 (by omega) (by omega)
  exact ok_mono (lp L v N n2 ow2 kd2 1 (mk 6 0) 0 (by omega) (Nat.le_refl _) FR.rf v1.1 (Or.inl ⟨nh_mk (by omega), hp'.2.1.2.2.2.2, rfl⟩) (by omega) h5) (fun y _ hy => pre y hy)
end
end
section
section
variable {Fv : Int64 → Int64 → Prop} {P : Int64 → Prop} {u v w w2 : MS} {PR N p n n2 opM bnM bxM bx2 ND fr k tp mu CN PN SN UN FN rq q m h mm : Nat} {ow kd ow2 kd2 ro rn rh cb pc ct pM pE : Nat → Nat} {T : TY} {C : CY}
theorem LST_sz {h : Nat → Int64} {k f s : Nat} {x t : Int64} (l : LST h (k + 1) x t) (z : SZ h n ow kd Fv P f x s) : ∃ f' sa sb, f = f' + 1 ∧ SZ h n ow kd Fv P f' (h (vn x)) sa ∧ SZ h n ow kd Fv P f' (h (vn x + 1)) sb ∧ s = 2 + sa + sb ∧ LST h k (h (vn x + 1)) t ∧ va x = (vn x : Int) ∧ vn x + 2 ≤ n := by
  obtain ⟨l1, l2⟩ := l
  have hx : isH x := Or.inr (Or.inr l1)
  cases f with
  | zero => exact z.elim
  | succ f =>
    rcases z with ⟨z1, -⟩ | ⟨-, b, c, z3, z4⟩
    · exact absurd hx z1
    have bb : blk h x = 2 := by unfold blk; rw [l1]; rfl
    have pp : prt x = 0 := by unfold prt; rw [l1]; rfl
    rw [bb, pp] at z3 z4
    have bn := b.2.2.2.1
    rw [bb] at bn
    refine ⟨f, c 0, c 1, rfl, z3 0 (by omega) (by omega), z3 1 (by omega) (by omega), ?_, l2, by have := b.1; unfold vn; omega, bn⟩
    rw [z4]; show 2 + (0 + c (0 + 0) + c (0 + 1)) = _; simp; omega
def kn (g : Nat → Int) (k : Nat) : Nat := smm (fun j => if g j = 0 then 1 else 0) 0 k
def ks (g : Nat → Int) (c : Nat → Nat) (k : Nat) : Nat := smm (fun j => if g j = 0 then 2 + c j else 0) 0 k
theorem kn_s {g : Nat → Int} {k : Nat} : kn g (k + 1) = kn g k + if g k = 0 then 1 else 0 := by
  show smm _ 0 k + (if g (0 + k) = 0 then 1 else 0) = _
  rw [Nat.zero_add]; rfl
theorem ks_s {g : Nat → Int} {c : Nat → Nat} {k : Nat} : ks g c (k + 1) = ks g c k + if g k = 0 then 2 + c k else 0 := by
  show smm _ 0 k + (if g (0 + k) = 0 then 2 + c (0 + k) else 0) = _
  rw [Nat.zero_add]; rfl
theorem ks_le {g : Nat → Int} {c : Nat → Nat} : ∀ k, ks g c k ≤ smm (fun j => 2 + c j) 0 k := by
  intro k
  induction k with
  | zero => exact Nat.le_refl _
  | succ k ih =>
    rw [ks_s]
    show _ ≤ smm (fun j => 2 + c j) 0 k + (2 + c (0 + k))
    rw [Nat.zero_add]
    split <;> omega
theorem kn_le {g : Nat → Int} : ∀ k, kn g k ≤ k := by
  intro k
  induction k with
  | zero => exact Nat.le_refl _
  | succ k ih => rw [kn_s]; split <;> omega
theorem anew2 {g : Nat} {c : Nat → Nat} (e : ERX Fv P PR T C ND CN p v fr ro rn rh cb pc ct q n ow kd opM bnM bxM mu) (hq : tB T q + 2 ≤ tH T q) (hm : m < ND) (hx : NX T q m (tH T q - 1) (tM T q)) (h98 : A v 98 (60 * p + (fr - 1)) = ((m : Nat) : Int)) (ho : opM = ro (fr - 1) + tH T q) (hb : bnM = rn (fr - 1) + rh (fr - 1) + tM T q) : ∀ k w M nn ow2 kd2 f t s, k < M → k ≤ 500 → FR [] [] [89] [88] v w → MEI Fv P PR w p nn ow2 kd2 opM bnM bxM → SZ (hp w p) nn ow2 kd2 Fv P f t s → (∀ j, j < k → SZ (hp w p) nn ow2 kd2 Fv P g (v.2.2.2 167 j) (c j)) → nn + 2 * kn (A v 168) k ≤ 500 → (0 < kn (A v 168) k → ks (A v 168) c k + s ≤ 500) → OK (fun w2 _ => RES Fv P PR T C ND CN p mu v w2) ((gg_M_anew N M).2 w t (I ((k : Int) - 1))) := by
  intro k
  induction k with
  | zero =>
    intro w M nn ow2 kd2 f t s hM hk fw iw zt zc hn hs
    obtain ⟨M, rfl⟩ : ∃ M', M = M' + 1 := ⟨M - 1, by omega⟩
    have x4 := MEI_p iw
    have om : opM ≤ 46000 := iw.2.2.2.2.2.2.2.2.2.1.2
    show OK _ (fb_M_anew_95 N (gg_M_anew N M) w t (I (((0 : Nat) : Int) - 1)))
    unfold fb_M_anew_95
    rw [lit0q, decL (by omega) (by omega) (by omega) (by omega), decide_eq_true (by omega), br_tq, I_F' iw.2.2.1]
    refine ok_ck.mpr ⟨inb_at (k := 92) (n := 24) rfl (by omega) (by omega) (by decide), ok_ck.mpr ⟨inb_at (k := 92) (n := 24) rfl (by omega) (by omega) (by decide), ok_lt.mpr ?_⟩⟩
    rw [I_tn (x := (p : Int)) (by omega) (by omega), Int.toNat_natCast, I_A' iw.2.2.2.2.2.2.2.2.2.1.1, show (2 : Int32) = I 2 from rfl, I_sub, show (opM : Int) - 2 = ((opM - 2 : Nat) : Int) from by omega, wa_e]
    have i2 := ops_less iw (k := opM - 2) (by omega)
    have f2 : FR [] [] [89, 92] [88] v (wa w 92 p ((opM - 2 : Nat) : Int)) := FR.wa (FR.mo fw (by decide) (by decide) (by decide) (by decide)) (by decide)
    have o2 : OTF p v (wa w 92 p ((opM - 2 : Nat) : Int)) := OTF.tr (OTF_fr fw (by decide)) (OTF_at (FR.wa FR.rf (by decide) : FR [] [] [92] [] w _) (i0 := p) (fun j hj => by rw [A_eq (by omega) (by omega), if_neg hj]) (Or.inl ⟨by decide, rfl⟩))
    generalize wa w 92 p ((opM - 2 : Nat) : Int) = w2 at *
    have e2 := ERX_fr e f2 (by decide) (by decide) (by decide) i2 (by omega) (by omega)
    exact ok_bnd.mpr (ok_mono (putR (N := N) e2 hm hx (by rw [FR.A f2 (by decide)]; exact h98) (by omega) hb (SZ_gt zt) (by omega)) (fun y _ hy => ok_some.mpr (RES.pre f2 o2 (by decide) (by decide) (by decide) (by decide) hy)))
  | succ k ih =>
    intro w M nn ow2 kd2 f t s hM hk fw iw zt zc hn hs
    obtain ⟨M, rfl⟩ : ∃ M', M = M' + 1 := ⟨M - 1, by omega⟩
    show OK _ (fb_M_anew_95 N (gg_M_anew N M) w t (I (((k + 1 : Nat) : Int) - 1)))
    unfold fb_M_anew_95
    rw [show ((k + 1 : Nat) : Int) - 1 = (k : Int) from by omega, lit0q, decL (by omega) (by omega) (by omega) (by omega), decide_eq_false (by omega), br_fq]
    rw [kn_s] at hn hs
    rw [ks_s] at hs
    refine ok_ck.mpr ⟨inb_at (k := 168) (n := 500) rfl (by omega) (by omega) (by decide), ?_⟩
    have a168 : A w 168 k = A v 168 k := FR.A fw (by decide)
    have r168 := A_r v 168 k
    rw [I_tn (x := (k : Int)) (by omega) (by omega), Int.toNat_natCast, I_A' a168, decE r168.1 r168.2 (by omega) (by omega)]
    refine ok_br.mpr ⟨fun z => ok_ck.mpr ⟨inb_at (k := 167) (n := 500) rfl (by omega) (by omega) (by decide), ?_⟩, fun z => ?_⟩
    · have z' := of_decide_eq_true z
      rw [if_pos z'] at hn hs
      rw [if_pos z'] at hs
      have hs' := hs (by omega)
      rw [fw.2.2.2 167 (by decide)]
      refine ok_bnd.mpr (ok_mono (pair_ok (N := N) (f := g + f) (sa := c k) (sb := s) iw (SZ_le (zc k (by omega)) (by omega)) (SZ_le zt (by omega)) (by omega) (by omega)) (fun v4 r4 hv => ?_))
      obtain ⟨f4, y1, ow3, kd3, f2, y2, y3, y4, y5⟩ := hv
      unfold fb_M_anew_130
      rw [y1, show (7 : Int32) = I 7 from rfl, term_e, bnd_so, litm1q, I_add, show (k : Int) + -1 = (k : Int) - 1 from by omega]
      exact ih v4 M (nn + 2) ow3 kd3 f2 (mk 7 nn) (2 + c k + s) (by omega) (by omega) (FR.tr fw f4) y2 y3 (fun j hj => y5 _ _ _ (zc j (by omega))) (by omega) (fun _ => by omega)
    · have z' := of_decide_eq_false z
      rw [if_neg z'] at hn hs
      rw [if_neg z'] at hs
      unfold fb_M_anew_130
      rw [litm1q, I_add, show (k : Int) + -1 = (k : Int) - 1 from by omega]
      exact ih w M nn ow2 kd2 f t s (by omega) (by omega) fw iw zt (fun j hj => zc j (by omega)) (by omega) (fun y => by have := hs (by omega); omega)
theorem anew_ok {a K f sl : Nat} {t : Int64} (e : ERX Fv P PR T C ND CN p u fr ro rn rh cb pc ct q n ow kd (ro (fr - 1) + tH T q) (rn (fr - 1) + rh (fr - 1) + tM T q) bxM mu) (hp' : PGM Fv P PR T C pM pE ND CN PN SN UN FN u) (hq : tB T q + 2 ≤ tH T q) (hm : m < ND) (hx : NX T q m (tH T q - 1) (tM T q)) (h98 : A u 98 (60 * p + (fr - 1)) = ((m : Nat) : Int)) (hN : 60000 ≤ N) (ha : a ≤ 500) (hK : K = kn (A u 168) a) (hl : LST (hp u p) a (u.2.2.2 91 (46000 * p + (ro (fr - 1) + tH T q - 2))) t) (zl : SZ (hp u p) n ow kd Fv P f (u.2.2.2 91 (46000 * p + (ro (fr - 1) + tH T q - 2))) sl)
    (hc : (F u 169 = 0 ∧ ∃ f2 sr, SZ (hp u p) n ow kd Fv P f2 (u.2.2.2 91 (46000 * p + (ro (fr - 1) + tH T q - 1))) sr ∧ (0 < K → sl + sr ≤ 500)) ∨ (F u 169 ≠ 0 ∧ (0 < K → sl ≤ 500))) : OK (fun v _ => RES Fv P PR T C ND CN p mu u v) (fm_M_anew N u (I a) (I ((2 * K : Nat) : Int))) := by
  have i := e.1
  have x4 := MEI_p i
  have hH := (hp'.1.2.2.1 q e.2.2.1).1.1
  have hf := e.2.1.1
  have hro := (e.2.1.2.2.1 (fr - 1) (by omega)).2.2.2.2.1
  have kl := kn_le (g := A u 168) a
  unfold fm_M_anew fb_M_anew_0
  rw [I_F' i.2.2.1]
  refine ok_bnd.mpr (ok_mono (wantsE (N := N) e (k := 2 * K) (by omega) hN) (fun v r hv => ?_))
  obtain ⟨n2, ow2, kd2, fd, v1, v2, v3, v4⟩ := hv
  have ou : OTF p u v := OTF_fr v2 (by decide)
  have pre : ∀ y, RES Fv P PR T C ND CN p mu v y → RES Fv P PR T C ND CN p mu u y := fun y hy => RES.pre v2 ou (by decide) (by decide) (by decide) (by decide) hy
  refine ok_br.mpr ⟨fun _ => ok_bnd.mpr (ok_mono (noRoomR (N := N) v1 hp'.2.1) (fun y _ hy => ok_some.mpr (pre y hy))), fun zr => ?_⟩
  have h5 : n2 + 2 * K ≤ 500 := by
    rcases v4 with ⟨-, y⟩ | y
    · exact y
    · exact absurd y (of_decide_eq_false zr)
  have l2 := v3.2.2.2.2 (ro (fr - 1) + tH T q - 2) a t (by omega) hl
  have z2 := v3.2.2.1 (ro (fr - 1) + tH T q - 2) f sl (by omega) zl
  rw [← v3.1 _ (by omega)] at l2 z2
  generalize fd t = t2 at l2
  have e168 : A v 168 = A u 168 := funext (fun j => FR.A v2 (by decide))
  have e169 : F v 169 = F u 169 := FR.F v2 (by decide)
  have h98v : A v 98 (60 * p + (fr - 1)) = ((m : Nat) : Int) := by rw [FR.A v2 (by decide)]; exact h98
  have n500 : n2 ≤ 500 := v1.1.2.2.2.2.2.2.2.1
  have hc2 : (F v 169 = 0 ∧ ∃ f2 sr, SZ (hp v p) n2 ow2 kd2 Fv P f2 (v.2.2.2 91 (46000 * p + (ro (fr - 1) + tH T q - 1))) sr ∧ (0 < K → sl + sr ≤ 500)) ∨ (F v 169 ≠ 0 ∧ (0 < K → sl ≤ 500)) := by
    rw [e169]
    rcases hc with ⟨c1, f2, sr, c2, c3⟩ | c
    · have := v3.2.2.1 (ro (fr - 1) + tH T q - 1) f2 sr (by omega) c2
      rw [← v3.1 _ (by omega)] at this
      exact Or.inl ⟨c1, f2, sr, this, c3⟩
    · exact Or.inr c
  obtain ⟨t1, -⟩ := top_ok (N := N) (k := 1) v1.1 (by omega)
  rw [lit1q, show (1 : Int) = ((1 : Nat) : Int) from rfl, t1, bnd_so, show (0 : Int32) = I ((0 : Nat) : Int) from rfl]
  rw [show ro (fr - 1) + tH T q - 1 - 1 = ro (fr - 1) + tH T q - 2 from by omega]
  have L1 : ∀ (k j : Nat) (w : MS) (M : Nat) (x : Int64) (f s g : Nat) (c : Nat → Nat), j + k = a → k + a + 3 ≤ M → FR [] [] [] [167] v w → LST (hp v p) k x t2 → SZ (hp v p) n2 ow2 kd2 Fv P f x s → (∀ i, i < j → SZ (hp v p) n2 ow2 kd2 Fv P g (w.2.2.2 167 i) (c i)) → smm (fun i => 2 + c i) 0 j + s = sl → OK (fun y _ => RES Fv P PR T C ND CN p mu v y) ((gg_M_anew N M).1 w (I a) x (I j)) := by
    intro k
    induction k with
    | zero =>
      intro j w M x f s g c hj hM fw l z zc hs
      obtain rfl : j = a := by omega
      obtain ⟨M, rfl⟩ : ∃ M', M = M' + 1 := ⟨M - 1, by omega⟩
      have hpw : hp w p = hp v p := by unfold hp; rw [fw.2.2.2 88 (by decide)]
      have iw : MEI Fv P PR w p n2 ow2 kd2 (ro (fr - 1) + tH T q) (rn (fr - 1) + rh (fr - 1) + tM T q) bxM := MEI_fr v1.1 fw (by decide) (by decide) (by decide) (by decide) (by decide) (by decide) (by decide) (by decide) (by decide) (by decide) (by decide) (by decide) (by decide) (by decide) (by decide) (by decide) (by decide) (by decide)
      have ew := ERX_fr v1 fw (by decide) (by decide) (by decide) iw (by omega) (Nat.le_refl _)
      have e168w : A w 168 = A u 168 := by rw [← e168]; exact funext (fun j => FR.A fw (by decide))
      have kle := ks_le (g := A u 168) (c := c) j
      have go : ∀ t0 f0 s0, SZ (hp v p) n2 ow2 kd2 Fv P f0 t0 s0 → (0 < K → ks (A u 168) c j + s0 ≤ 500) → OK (fun y _ => RES Fv P PR T C ND CN p mu v y) (fb_M_anew_88 N (gg_M_anew N M) w (I j) t0) := fun t0 f0 s0 zz hz => by
        unfold fb_M_anew_88
        rw [lit1q, I_sub]
        exact ok_mono (anew2 (N := N) (g := g) (c := c) (m := m) ew hq hm hx (by rw [FR.A fw (by decide)]; exact h98v) rfl rfl j w M n2 ow2 kd2 f0 t0 s0 (by omega) ha FR.rf iw (by rw [hpw]; exact zz) (fun i hi => by rw [hpw]; exact zc i hi) (by rw [e168w, ← hK]; exact h5) (by rw [e168w, ← hK]; exact hz)) (fun y _ hy => RES.pre fw (OTF_fr fw (by decide)) (by decide) (by decide) (by decide) (by decide) hy)
      show OK _ (fb_M_anew_26 N (gg_M_anew N M) w (I j) x (I j))
      unfold fb_M_anew_26
      have r169 := F_r v 169
      rw [decI (by omega) (by omega) (by omega) (by omega), decide_eq_true (by omega), br_tq, I_F' (show F w 169 = F v 169 from FR.F fw (by decide)), lit0q, decE r169.1 r169.2 (by omega) (by omega)]
      refine ok_br.mpr ⟨fun zz => ?_, fun zz => ?_⟩
      · obtain ⟨t3, -⟩ := top_ok (N := N) (k := 0) iw (by omega)
        rw [show (0 : Int) = ((0 : Nat) : Int) from rfl, t3, bnd_so]
        rcases hc2 with ⟨-, f2, sr, c2, c3⟩ | ⟨c1, -⟩
        · rw [fw.2.2.2 91 (by decide)]
          exact go _ f2 sr c2 (fun y => by have := c3 y; omega)
        · exact absurd (of_decide_eq_true zz) c1
      · rcases hc2 with ⟨c1, -⟩ | ⟨-, c2⟩
        · exact absurd c1 (of_decide_eq_false zz)
        · exact go x f s z (fun y => by have := c2 y; omega)
    | succ k ih =>
      intro j w M x f s g c hj hM fw l z zc hs
      obtain ⟨M, rfl⟩ : ∃ M', M = M' + 1 := ⟨M - 1, by omega⟩
      obtain ⟨f', sa, sb, y1, y2, y3, y4, y5, y6, y7⟩ := LST_sz l z
      show OK _ (fb_M_anew_26 N (gg_M_anew N M) w (I a) x (I j))
      unfold fb_M_anew_26
      have hpw : hp w p = hp v p := by unfold hp; rw [fw.2.2.2 88 (by decide)]
      have w133 : F w 133 = p := by rw [FR.F fw (by decide)]; exact v1.1.2.2.1
      rw [decI (by omega) (by omega) (by omega) (by omega), decide_eq_false (by omega), br_fq, valueOf_e, bnd_so, I_F' w133, y6, cell_e (by omega) (by omega), bnd_so]
      refine ok_ck.mpr ⟨inb_at (k := 167) (n := 500) rfl (by omega) (by omega) (by decide), ok_lt.mpr ?_⟩
      rw [I_tn (x := (j : Int)) (by omega) (by omega), Int.toNat_natCast, wj_e, valueOf_e, bnd_so, show (wj w 167 j (hp w p (vn x))).1 133 = I p from I_F' w133, y6, lit1q, I_add, I_add, show (vn x : Int) + 1 = ((vn x + 1 : Nat) : Int) from by omega, cell_e (by omega) (by omega), bnd_so, show (j : Int) + 1 = ((j + 1 : Nat) : Int) from by omega, hpw]
      have hpz : hp (wj w 167 j (hp v p (vn x))) p = hp v p := hpw
      rw [hpz]
      refine ih (j + 1) _ M _ f' sb (g + f') (fun i => if i = j then sa else c i) (by omega) (by omega) (FR.wj fw (by decide)) y5 y3 (fun i hi => ?_) ?_
      · rw [J_wj, if_pos rfl]
        by_cases zi : i = j
        · subst zi; rw [if_pos rfl, if_pos rfl]; exact SZ_le y2 (by omega)
        · rw [if_neg zi, if_neg zi]; exact SZ_le (zc i (by omega)) (by omega)
      · show smm (fun i => 2 + if i = j then sa else c i) 0 j + (2 + if 0 + j = j then sa else c (0 + j)) + sb = sl
        rw [if_pos (by omega), smm_ext (c := fun i => 2 + if i = j then sa else c i) (a := 0) (d := fun i => 2 + c i) (b := 0) j (fun i hi => by show 2 + (if 0 + i = j then sa else c (0 + i)) = _; rw [if_neg (by omega)])]
        omega
  exact ok_mono (L1 a 0 v N _ f sl 0 (fun _ => 0) (by omega) (by omega) FR.rf l2 z2 (fun i hi => absurd hi (Nat.not_lt_zero i)) (by show 0 + sl = sl; omega)) (fun y _ hy => pre y hy)
end
end
