section
variable {Fv : Int64 → Int64 → Prop} {P : Int64 → Prop} {u v w w2 : MS} {PR N p n n2 opM bnM bxM bx2 ND fr k tp mu CN PN SN UN FN rq q m h mm : Nat} {ow kd ow2 kd2 ro rn rh cb pc ct pM pE : Nat → Nat} {T : TY} {C : CY}
theorem next0 {is ls as js : List Nat} (e : ERX Fv P PR T C ND CN p u fr ro rn rh cb pc ct q n ow kd opM bnM bxM mu) (hG : tG T q = 0) (hm : m < ND) (h3 : tL T m = tL T q) (h4 : tG T m = 0) (h5 : tR T m < tR T q) (f : FR is ls as js u v) (hi : ∀ k, k ∈ [152, 164, 165] → k ∉ is) (h98 : A v 98 (60 * p + (fr - 1)) = ((m : Nat) : Int)) (h109 : A v 109 p = 0) (i : MEI Fv P PR v p n2 ow2 kd2 (ro (fr - 1) + tH T m) (rn (fr - 1) + rh (fr - 1) + tM T m) bx2) {ct2 : Nat → Nat} (hf : FRS v T ND p fr ro rn rh cb pc ct2 (tK T m) (tC T m)) (h106 : A v 106 p = ((cb (fr - 1) + tK T m : Nat) : Int)) : ∃ m2, m2 < mu ∧ STE Fv P PR T C ND CN p m2 v := by
  obtain ⟨-, -, e3, e4, -, -, -, -, e9⟩ := e
  obtain ⟨y2, y3⟩ : F u 152 = 0 ∧ CLG u (sR T pc (fr - 1) + tR T q) 0 mu := by
    rcases e9 with ⟨-, y⟩ | ⟨-, c, s, many, hg', hb', mm', r, t1, t2, -⟩
    · exact y
    · omega
  obtain ⟨c1, c2, c3, c4⟩ := y3
  refine ⟨mu - 1, by omega, fr, ro, rn, rh, cb, pc, ct2, m, n2, ow2, kd2, bx2, ⟨i, hf, h98, hm, by rw [h3]; exact e4, h106⟩, h109, Or.inl ⟨h4, by rw [FR.F f (hi _ (by decide))]; exact y2, ?_⟩⟩
  unfold CLG
  rw [FR.F f (hi _ (by decide)), FR.F f (hi _ (by decide))]
  exact ⟨c1, c2, c3, by omega⟩
theorem i28 {c a : Nat} (e : ERX Fv P PR T C ND CN p u fr ro rn rh cb pc ct q n ow kd (ro (fr - 1) + tH T q) (rn (fr - 1) + rh (fr - 1) + tM T q) bxM mu) (hp : PGM Fv P PR T C pM pE ND CN PN SN UN FN u) (hG : tG T q = 0) (hq : tB T q + 1 ≤ tH T q) (h27 : A u 27 q = c) (hcD : tD T q ≤ c) (hc : c ≤ tM T q) (ha : A u 25 q = a) (hm : a < ND) (hx : NX T q a (tH T q - 1) c) (hN : 60000 ≤ N) : OK (fun v _ => RES Fv P PR T C ND CN p mu u v) (fm_M_afterRun N u (I q)) := by
  have e' := e
  rw [show ro (fr - 1) + tH T q = ro (fr - 1) + (tH T q - 1) + 1 from by omega] at e'
  have q1 := e.2.2.1
  have nd := hp.1.1.1
  have hrn := (e.2.1.2.2.1 (fr - 1) (by have := e.2.1.1; omega))
  have hf := e.2.1.1
  have hMM := (hp.1.2.2.1 q q1).1.2.1
  unfold fm_M_afterRun fb_M_afterRun_0 fb_M_afterRun_23
  refine ok_bnd.mpr (ok_mono (takeE (N := N) e' (by omega)) (fun v r hv => ?_))
  obtain ⟨v1, v2, v3, v4⟩ := hv
  have x4 := MEI_p v1.1
  have back : ∀ x, RES Fv P PR T C ND CN p mu v x → RES Fv P PR T C ND CN p mu u x := fun x hx => RES.tr (FR.mo v3 (by decide) (by decide) (by decide) (by decide)) v4 (fun z _ => FR.A v3 (by decide)) hx (Nat.le_refl _)
  have t49 : ∀ y : Int32, OK (fun x _ => RES Fv P PR T C ND CN p mu u x) (fb_M_afterRun_49 N () v (I q) r y) := fun y => by
    unfold fb_M_afterRun_49
    refine ok_ck.mpr ⟨inb_at (k := 27) (n := 16000) rfl (by omega) (by omega) (by decide), ?_⟩
    rw [I_tn (x := (q : Int)) (by omega) (by omega), Int.toNat_natCast, I_A' (show A v 27 q = c by rw [FR.A v3 (by decide)]; exact h27)]
    refine ok_bnd.mpr (ok_mono (namesTo_ok (N := N) (a := c) v1 (by omega)) (fun x _ hx' => ?_))
    obtain ⟨-, x2, x3, x4'⟩ := hx'
    have r0 : ∀ t : Int64, OK (fun x _ => RES Fv P PR T C ND CN p mu u x) (fb_M_afterRun_89 N () x (I q) 111 (I p) t) := fun t => by
      obtain ⟨k1, k2, k3, k4, k5, k6, k7, k8, k9⟩ := id v1
      have fx : FR [] [] [92, 94] [] u x := FR.tr (FR.mo v3 (by decide) (by decide) (by decide) (by decide)) (FR.mo x3 (by decide) (by decide) (by decide) (by decide))
      obtain ⟨n1, n2, n3, n4, n5, n6, n7, n8, n9⟩ := id hx
      unfold fb_M_afterRun_89
      refine ok_ck.mpr ⟨rfl, ok_ck.mpr ⟨inb_at (k := 111) (n := 24) rfl (by omega) (by omega) (by decide), ok_lt.mpr ?_⟩⟩
      rw [I_tn (x := (p : Int)) (by omega) (by omega), Int.toNat_natCast, wj_e]
      have f1 : FR [] [] [] [111] x (wj x 111 p t) := FR.wj FR.rf (by decide)
      have i1 := MEI_fr x2 f1 (by decide) (by decide) (by decide) (by decide) (by decide) (by decide) (by decide) (by decide) (by decide) (by decide) (by decide) (by decide) (by decide) (by decide) (by decide) (by decide) (by decide) (by decide)
      have o1 : OTF p x (wj x 111 p t) := OTF_111
      generalize wj x 111 p t = w1 at *
      have f2 : FR [] [] [92, 94] [111] u w1 := FR.tr (FR.mo fx (by decide) (by decide) (by decide) (by decide)) (FR.mo f1 (by decide) (by decide) (by decide) (by decide))
      refine ok_ck.mpr ⟨inb_at (k := 25) (n := 16000) rfl (by omega) (by omega) (by decide), ?_⟩
      rw [I_tn (x := (q : Int)) (by omega) (by omega), Int.toNat_natCast, I_A' (show A w1 25 q = a by rw [FR.A f2 (by decide)]; exact ha)]
      refine ok_bnd.mpr (ok_mono (at_ok (N := N) (q := a) (fr := fr) (ro := ro) (rn := rn) (rh := rh) (cb := cb) (pc := pc) (ct := ct) (by rw [n1, n2]; exact i1) (by rw [n4, n8]; exact FRS_fr e.2.1 f2 (by decide) (by decide) (by decide) (by decide) (by decide) (by decide) (by decide) (by decide) (by decide) (by decide)) hm nd (by rw [n3]; exact e.2.2.2.1) (by rw [FR.A f2 (by decide), n4]; exact e.2.2.2.2.1)) (fun y _ hy => ok_some.mpr ?_))
      obtain ⟨y1, y2, y3⟩ := hy
      have fy : FR [] [] [92, 94, 98] [111] u y := FR.tr (FR.mo f2 (by decide) (by decide) (by decide) (by decide)) (FR.mo y2 (by decide) (by decide) (by decide) (by decide))
      obtain ⟨w1', w2', w3', w4', w5', w6'⟩ := y1
      exact ⟨Or.inr (Or.inr (next0 e hG hm n3 (by rw [n5]; exact hG) n9 fy (by decide) w3' (by rw [FR.A fy (by decide)]; exact e.2.2.2.2.2.1) w1' w2' w6')), Or.inl (FR.mo fy (by decide) (by decide) (by decide) (by decide)), OTF.tr (OTF.tr v4 x4') (OTF.tr o1 y3), fun z _ => FR.A fy (by decide)⟩
    rw [I_F' x2.2.2.1]
    refine ok_br.mpr ⟨fun _ => r0 _, fun _ => ?_⟩
    rw [valueOf_e, bnd_so]
    exact r0 _
  have t24 : ∀ y : Int32, OK (fun x _ => RES Fv P PR T C ND CN p mu u x) (fb_M_afterRun_24 N () v (I q) r y) := fun y => by
    unfold fb_M_afterRun_24
    rw [lit1q, show (10 : Int32) = I 10 from rfl, term_e, bnd_so]
    refine ok_br.mpr ⟨fun _ => ok_br.mpr ⟨fun _ => t49 y, fun _ => ?_⟩, fun _ => t49 y⟩
    exact ok_bnd.mpr (ok_mono (err_ok (N := N) (a := 11) v1 (PGM_fr hp v3 (by decide) (by decide)) (by omega) hN) (fun x _ hx => ok_some.mpr (back x hx)))
  rw [sortOf_e, bnd_so, valueOf_e, bnd_so]
  exact ok_br.mpr ⟨fun _ => ok_br.mpr ⟨fun _ => t24 0, fun _ => t24 1⟩, fun _ => t24 0⟩
end
