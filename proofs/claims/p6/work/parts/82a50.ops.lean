section
variable {Fv : Int64 → Int64 → Prop} {P : Int64 → Prop} {u v w w2 : MS} {PR N p n n2 opM bnM bxM bx2 ND fr k tp mu CN PN SN UN FN rq q m h mm : Nat} {ow kd ow2 kd2 ro rn rh cb pc ct pM pE : Nat → Nat} {T : TY} {C : CY}
theorem ERX_fr {is ls as js : List Nat} (e : ERX Fv P PR T C ND CN p u fr ro rn rh cb pc ct q n ow kd opM bnM bxM mu) (f : FR is ls as js u v) (hi : ∀ k, k ∈ [149, 150, 151, 152, 153, 154, 155, 156, 157, 158, 159, 164, 165] → k ∉ is) (ha : ∀ k, k ∈ [23, 25, 31, 41, 95, 98, 99, 100, 101, 102, 103, 104, 105, 106, 109] → k ∉ as) (hj : 111 ∉ js) {o2 b2 : Nat} (i : MEI Fv P PR v p n2 ow2 kd2 o2 b2 bxM) (ho : ro (fr - 1) + tB T q ≤ o2) (hb : rn (fr - 1) + rh (fr - 1) + tM T q ≤ b2) : ERX Fv P PR T C ND CN p v fr ro rn rh cb pc ct q n2 ow2 kd2 o2 b2 bxM mu := by
  obtain ⟨-, h2, h3, h4, h5, h6, h7, h8, h9⟩ := e
  refine ⟨i, FRS_98 h2 f (fun k hk => ha k (by revert hk; simp; omega)) (fun j _ => FR.A f (ha _ (by decide))), h3, h4, by rw [FR.A f (ha _ (by decide))]; exact h5, by rw [FR.A f (ha _ (by decide))]; exact h6, ho, hb, ?_⟩
  rcases h9 with ⟨y1, y2, y3⟩ | ⟨y1, c, s, many, hg', hb', mm', r, t1, t2, t3, t4, t5⟩
  · refine Or.inl ⟨y1, by rw [FR.F f (hi _ (by decide))]; exact y2, ?_⟩
    unfold CLG; rw [FR.F f (hi _ (by decide)), FR.F f (hi _ (by decide))]; exact y3
  · refine Or.inr ⟨by rw [FR.F f (hi _ (by decide))]; exact y1, c, s, many, hg', hb', mm', r, TRS_fr t1 f (fun k hk => hi k (by revert hk; simp; omega)) (fun k hk => ha k (by revert hk; simp; omega)) hj, t2, by rw [FR.F f (hi _ (by decide))]; exact t3, by rw [FR.F f (hi _ (by decide))]; exact t4, ?_⟩
    unfold CLG; rw [FR.F f (hi _ (by decide)), FR.F f (hi _ (by decide)), FR.F f (hi _ (by decide))]; exact t5
theorem putR {t : Int64} (e : ERX Fv P PR T C ND CN p u fr ro rn rh cb pc ct q n ow kd opM bnM bxM mu) (hm : m < ND) (hx : NX T q m h mm) (h98 : A u 98 (60 * p + (fr - 1)) = ((m : Nat) : Int)) (ho : opM + 1 = ro (fr - 1) + h) (hb : bnM = rn (fr - 1) + rh (fr - 1) + mm) (g : GT n ow kd P t) (hc : opM < 46000) : OK (fun v _ => RES Fv P PR T C ND CN p mu u v) (fm_M_put N u t) := by
  refine ok_mono (put_ok (N := N) e.1 g hc) (fun v _ hv => ?_)
  obtain ⟨v1, v2⟩ := hv
  have x4 := MEI_p e.1
  have f : FR [] [] [92] [91] u v := by rw [v1]; exact FR.wa (FR.wj FR.rf (by decide)) (by decide)
  refine nxtR e hm hx f (by decide) (by decide) (by decide) h98 (by rw [← ho, ← hb]; exact v2) (FR.mo f (by decide) (by decide) (by decide) (by decide)) ?_
  refine ⟨fun z hz => ⟨?_, FR.A f (by decide), FR.A f (by decide), FR.A f (by decide)⟩, fun j _ => ⟨FR.A f (by decide), FR.A f (by decide), FR.A f (by decide), FR.A f (by decide)⟩, fun j _ => ⟨FR.A f (by decide), FR.A f (by decide), FR.A f (by decide), FR.A f (by decide)⟩, OTF_9 f (by decide)⟩
  rw [v1, A_eq (by omega) (by omega), if_neg hz]; rfl
theorem takeE (e : ERX Fv P PR T C ND CN p u fr ro rn rh cb pc ct q n ow kd (opM + 1) bnM bxM mu) (ho : ro (fr - 1) + tB T q ≤ opM) : OK (fun v r => ERX Fv P PR T C ND CN p v fr ro rn rh cb pc ct q n ow kd opM bnM bxM mu ∧ GT n ow kd P r ∧ FR [] [] [92] [] u v ∧ OTF p u v) (fm_M_take N u) := by
  refine ok_mono (take_ok (N := N) e.1) (fun v r hv => ?_)
  obtain ⟨v1, v2, v3, v4⟩ := hv
  have x4 := MEI_p e.1
  have om : opM ≤ 46000 := v4.2.2.2.2.2.2.2.2.2.1.2
  have f : FR [] [] [92] [] u v := by rw [v1]; exact FR.wa FR.rf (by decide)
  exact ⟨ERX_fr e f (by decide) (by decide) (by decide) v4 ho e.2.2.2.2.2.2.2.1, v3, f, OTF_at f (i0 := p) (fun j hj => by rw [v1, A_eq (by omega) (by omega), if_neg hj]) (Or.inl ⟨by decide, rfl⟩)⟩
theorem RES.pre {is ls as js : List Nat} {w0 : MS} (f : FR is ls as js w0 u) (o : OTF p w0 u) (h1 : ∀ k, k ∈ is → k ∈ [119, 136, 138, 140, 152, 153, 154, 155, 156, 157, 158, 159, 165, 166, 169]) (h2 : ∀ k, k ∈ ls → k ∈ [139]) (h3 : ∀ k, k ∈ as → k ∈ [89, 90, 92, 94, 95, 96, 97, 98, 99, 100, 101, 102, 103, 104, 105, 106, 108, 110, 114, 115, 135, 142, 145, 146, 147, 160, 162, 168]) (h4 : ∀ k, k ∈ js → k ∈ [88, 91, 93, 107, 111, 134, 137, 141, 148, 161, 163, 167]) (r : RES Fv P PR T C ND CN p mu u w) : RES Fv P PR T C ND CN p mu w0 w :=
  RES.tr (FR.mo f h1 h2 (fun k hk => by have := h3 k hk; revert this; simp; omega) h4) o (fun z _ => FR.A f (fun hk => by have := h3 109 hk; revert this; decide)) r (Nat.le_refl _)
theorem i17 (e : ERX Fv P PR T C ND CN p u fr ro rn rh cb pc ct q n ow kd (ro (fr - 1) + tH T q) (rn (fr - 1) + rh (fr - 1) + tM T q) bxM mu) (hq : tB T q + 1 ≤ tH T q) (hm : m < ND) (hx : NX T q m (tH T q - 1) (tM T q)) (h98 : A u 98 (60 * p + (fr - 1)) = ((m : Nat) : Int)) : OK (fun v _ => RES Fv P PR T C ND CN p mu u v) (bnd (fm_M_take N u) (fun u20 r20 => fb_M_one_468 N () u20)) := by
  have e' := e
  rw [show ro (fr - 1) + tH T q = ro (fr - 1) + (tH T q - 1) + 1 from by omega] at e'
  unfold fb_M_one_468
  refine ok_bnd.mpr (ok_mono (takeE (N := N) e' (by omega)) (fun v r hv => ok_some.mpr ?_))
  obtain ⟨v1, v2, v3, v4⟩ := hv
  exact nxtR e hm hx v3 (by decide) (by decide) (by decide) h98 v1.1 (FR.mo v3 (by decide) (by decide) (by decide) (by decide)) v4
theorem i1 {a b : Int} (e : ERX Fv P PR T C ND CN p u fr ro rn rh cb pc ct q n ow kd (ro (fr - 1) + tH T q) (rn (fr - 1) + rh (fr - 1) + tM T q) bxM mu) (hp : PGM Fv P PR T C pM pE ND CN PN SN UN FN u) (hPa : ∀ a : Int, 0 ≤ a → a < F u 14 → P (mk 1 a)) (hm : m < ND) (hx : NX T q m (tH T q + 1) (tM T q)) (h98 : A u 98 (60 * p + (fr - 1)) = ((m : Nat) : Int)) (ha : A u 25 q = a) (hb : A u 26 q = b) (hab : a = 0 ∨ (a = 1 ∧ 0 ≤ b ∧ b < F u 14)) : OK (fun v _ => RES Fv P PR T C ND CN p mu u v) (ck (inb (I q) (ln 25)) (ck (inb (I q) (ln 26)) (bnd (fm_M_term N u (u.2.2.1 25 (I q).toNatClampNeg) (u.2.2.1 26 (I q).toNatClampNeg)) (fun u27 r27 => bnd (fm_M_put N u27 r27) (fun u28 _ => fb_M_one_468 N () u28))))) := by
  have q1 := e.2.2.1
  have nd := hp.1.1.1
  have rb := A_r u 26 q
  have hf := e.2.1.1
  have hro := (e.2.1.2.2.1 (fr - 1) (by omega)).2.2.2.2.1
  have hH := (hp.1.2.2.1 q q1).1.1
  unfold fb_M_one_468
  refine ok_ck.mpr ⟨inb_at (k := 25) (n := 16000) rfl (by omega) (by omega) (by decide), ok_ck.mpr ⟨inb_at (k := 26) (n := 16000) rfl (by omega) (by omega) (by decide), ?_⟩⟩
  rw [I_tn (by omega) (by omega), Int.toNat_natCast, I_A' ha, I_A' hb, term_e, bnd_so]
  have g : GT n ow kd P (mk a b) := by
    refine Or.inl ⟨nh_mk (by omega), ?_⟩
    rcases hab with z | ⟨z, z1, z2⟩
    · subst z; exact hp.2.1.2.2.2.1 b (by omega) (by omega)
    · subst z; exact hPa b z1 z2
  exact ok_bnd.mpr (ok_mono (putR (N := N) e hm hx h98 (by omega) rfl g (by omega)) (fun v _ hv => ok_some.mpr hv))
theorem i3 {c : Int} (e : ERX Fv P PR T C ND CN p u fr ro rn rh cb pc ct q n ow kd (ro (fr - 1) + tH T q) (rn (fr - 1) + rh (fr - 1) + tM T q) bxM mu) (hp : PGM Fv P PR T C pM pE ND CN PN SN UN FN u) (hm : m < ND) (hx : NX T q m (tH T q + 1) (tM T q)) (h98 : A u 98 (60 * p + (fr - 1)) = ((m : Nat) : Int)) (ha : A u 25 q = c) (hc : NCO c (tM T q) (tL T q)) : OK (fun v _ => RES Fv P PR T C ND CN p mu u v) (ck (inb (I q) (ln 25)) (bnd (fm_M_nameAt N u (u.2.2.1 25 (I q).toNatClampNeg)) (fun u25 r25 => bnd (fm_M_put N u25 r25) (fun u26 _ => fb_M_one_468 N () u26)))) := by
  have q1 := e.2.2.1
  have nd := hp.1.1.1
  have hf := e.2.1.1
  have hro := (e.2.1.2.2.1 (fr - 1) (by omega))
  have hH := (hp.1.2.2.1 q q1).1.1
  have hMM := (hp.1.2.2.1 q q1).1.2.1
  have hl := e.2.2.2.1
  unfold fb_M_one_468
  refine ok_ck.mpr ⟨inb_at (k := 25) (n := 16000) rfl (by omega) (by omega) (by decide), ?_⟩
  rw [I_tn (by omega) (by omega), Int.toNat_natCast, I_A' ha]
  have hc' := hc
  unfold NCO at hc'
  rw [← hl] at hc'
  refine ok_bnd.mpr (ok_mono (nameAt_ok (N := N) (fr := fr) (rn := rn (fr - 1)) (rh := rh (fr - 1)) (m := tM T q) e.1 ⟨hf.2.2, hf.1, hf.2.1, hro.2.1, hro.2.2.1⟩ rfl hc' (by omega)) (fun v r hv => ?_))
  obtain ⟨v1, v2⟩ := hv
  subst v1
  exact ok_bnd.mpr (ok_mono (putR (N := N) e hm hx h98 (by omega) rfl v2 (by omega)) (fun v _ hv => ok_some.mpr hv))
end
