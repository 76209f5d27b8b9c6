section
variable {Fv : Int64 → Int64 → Prop} {P : Int64 → Prop} {u v w w2 : MS} {PR N p n n2 opM bnM bxM bx2 ND fr k tp mu CN PN SN UN FN rq q m h mm : Nat} {ow kd ow2 kd2 ro rn rh cb pc ct pM pE : Nat → Nat} {T : TY} {C : CY}
theorem gotoR (e : ERX Fv P PR T C ND CN p u fr ro rn rh cb pc ct q n ow kd opM bnM bxM mu) (hm : m < ND) (hnd : ND ≤ 16000) (hx : NX T q m h mm) (ho : opM = ro (fr - 1) + h) (hb : bnM = rn (fr - 1) + rh (fr - 1) + mm) : OK (fun v _ => RES Fv P PR T C ND CN p mu u v) (fm_M_goTo N u (I m)) := by
  have x4 := MEI_p e.1
  have hf := e.2.1.1
  rw [goTo_ok e.1 hf.2.2 ⟨hf.1, hf.2.1⟩ (by omega)]
  have f98 : FR [] [] [98] [] u (wa u 98 (60 * p + (fr - 1)) m) := FR.wa FR.rf (by decide)
  have e98 : ∀ j, A (wa u 98 (60 * p + (fr - 1)) m) 98 j = if j = 60 * p + (fr - 1) then (m : Int) else A u 98 j := fun j => A_eq (by omega) (by omega)
  have i2 := MEI_fr e.1 f98 (by decide) (by decide) (by decide) (by decide) (by decide) (by decide) (by decide) (by decide) (by decide) (by decide) (by decide) (by decide) (by decide) (by decide) (by decide) (by decide) (by decide) (by decide)
  rw [ho, hb] at i2
  exact ok_some.mpr ⟨Or.inr (Or.inr (nxt e hm hx f98 (by decide) (by decide) (by decide) (by rw [e98, if_pos rfl]) (fun j hj => by rw [e98, if_neg hj]) (by rw [FR.A f98 (by decide)]; exact e.2.2.2.2.2.1) i2 (Or.inl rfl))), Or.inl (FR.mo f98 (by decide) (by decide) (by decide) (by decide)), OTF_at f98 (i0 := 60 * p + (fr - 1)) (fun j hj => by rw [e98, if_neg hj]) (Or.inr (Or.inl ⟨by decide, by omega, by omega⟩)), fun z _ => FR.A f98 (by decide)⟩
theorem namesTo_ok {a : Nat} (e : ERX Fv P PR T C ND CN p u fr ro rn rh cb pc ct q n ow kd opM bnM bxM mu) (hb : rn (fr - 1) + rh (fr - 1) + a ≤ bnM) : OK (fun v _ => v = wa u 94 p ((rn (fr - 1) + rh (fr - 1) + a : Nat) : Int) ∧ MEI Fv P PR v p n ow kd opM (rn (fr - 1) + rh (fr - 1) + a) bxM ∧ FR [] [] [94] [] u v ∧ OTF p u v) (fm_M_namesTo N u (I a)) := by
  have x4 := MEI_p e.1
  have hf := e.2.1.1
  have hro := (e.2.1.2.2.1 (fr - 1) (by omega))
  have bb : bnM ≤ 2500 := e.1.2.2.2.2.2.2.2.2.2.2.1.2
  unfold fm_M_namesTo fb_M_namesTo_0
  rw [frame0_f e.1 hf.2.2 ⟨hf.1, hf.2.1⟩, bnd_so]
  refine ok_ck.mpr ⟨inb_at (k := 99) (n := 1440) rfl (by omega) (by omega) (by decide), ok_ck.mpr ⟨inb_at (k := 101) (n := 1440) rfl (by omega) (by omega) (by decide), ?_⟩⟩
  rw [I_F' e.1.2.2.1]
  refine ok_ck.mpr ⟨inb_at (k := 94) (n := 24) rfl (by omega) (by omega) (by decide), ok_lt.mpr ?_⟩
  rw [I_tn (x := ((60 * p + (fr - 1) : Nat) : Int)) (by omega) (by omega), Int.toNat_natCast, I_tn (x := (p : Int)) (by omega) (by omega), Int.toNat_natCast, I_A' hro.2.1, I_A' hro.2.2.1, I_add, I_add, show ((rn (fr - 1) : Nat) : Int) + ((rh (fr - 1) : Nat) : Int) + (a : Int) = ((rn (fr - 1) + rh (fr - 1) + a : Nat) : Int) from by omega, wa_e]
  have f : FR [] [] [94] [] u (wa u 94 p ((rn (fr - 1) + rh (fr - 1) + a : Nat) : Int)) := FR.wa FR.rf (by decide)
  exact ok_some.mpr ⟨rfl, names_less e.1 (k := rn (fr - 1) + rh (fr - 1) + a) hb, f, OTF_at f (i0 := p) (fun j hj => by rw [A_eq (by omega) (by omega), if_neg hj]) (Or.inl ⟨by decide, rfl⟩)⟩
theorem i18 {a : Nat} (e : ERX Fv P PR T C ND CN p u fr ro rn rh cb pc ct q n ow kd (ro (fr - 1) + tH T q) (rn (fr - 1) + rh (fr - 1) + tM T q) bxM mu) (hnd : ND ≤ 16000) (hm : m < ND) (ha : A u 25 q = a) (ham : a ≤ tM T q) (hx : NX T q m (tH T q) a) (h98 : A u 98 (60 * p + (fr - 1)) = ((m : Nat) : Int)) : OK (fun v _ => RES Fv P PR T C ND CN p mu u v) (ck (inb (I q) (ln 25)) (bnd (fm_M_namesTo N u (u.2.2.1 25 (I q).toNatClampNeg)) (fun u19 _ => fb_M_one_468 N () u19))) := by
  have q1 := e.2.2.1
  unfold fb_M_one_468
  refine ok_ck.mpr ⟨inb_at (k := 25) (n := 16000) rfl (by omega) (by omega) (by decide), ?_⟩
  rw [I_tn (by omega) (by omega), Int.toNat_natCast, I_A' ha]
  refine ok_bnd.mpr (ok_mono (namesTo_ok (N := N) e (by omega)) (fun v _ hv => ok_some.mpr ?_))
  obtain ⟨-, v2, v3, v4⟩ := hv
  exact nxtR e hm hx v3 (by decide) (by decide) (by decide) h98 v2 (FR.mo v3 (by decide) (by decide) (by decide) (by decide)) v4
theorem truth1 : fm_M_truth N u 1 = some (u, mk 1 0) := rfl
theorem truth0 : fm_M_truth N u 0 = some (u, mk 1 1) := rfl
theorem isTruth_ok {t : Int64} : OK (fun v r => v = u ∧ (r = I 0 ∨ r = I 1)) (fm_M_isTruth N u t) := by
  unfold fm_M_isTruth fb_M_isTruth_0 fb_M_isTruth_18 fb_M_isTruth_23
  rw [truth1, bnd_so, truth0, bnd_so]
  exact ok_br.mpr ⟨fun _ => ok_ck.mpr ⟨rfl, ok_some.mpr ⟨rfl, Or.inr rfl⟩⟩, fun _ => ok_br.mpr ⟨fun _ => ok_ck.mpr ⟨rfl, ok_some.mpr ⟨rfl, Or.inr rfl⟩⟩, fun _ => ok_ck.mpr ⟨rfl, ok_some.mpr ⟨rfl, Or.inl rfl⟩⟩⟩⟩
theorem GT_atom {a : Int} (hPB : PB P PR) (h : 0 ≤ a ∧ a < 22) : GT n ow kd P (mk 1 a) := Or.inl ⟨nh_mk (by omega), hPB.1 a h.1 h.2⟩
theorem ERX_g (e : ERX Fv P PR T C ND CN p u fr ro rn rh cb pc ct q n ow kd opM bnM bxM mu) (h : tG T q ≠ 0) : F u 152 = 1 := by
  rcases e.2.2.2.2.2.2.2.2 with ⟨y, -⟩ | ⟨y, -⟩
  · exact absurd y h
  · exact y
theorem i22 (e : ERX Fv P PR T C ND CN p u fr ro rn rh cb pc ct q n ow kd (ro (fr - 1) + tH T q) (rn (fr - 1) + rh (fr - 1) + tM T q) bxM mu) (hp : PGM Fv P PR T C pM pE ND CN PN SN UN FN u) (hG : tG T q ≠ 0) (hq : tB T q + 1 ≤ tH T q) (hm : m < ND) (hx : NX T q m (tH T q - 1) (tM T q)) (h98 : A u 98 (60 * p + (fr - 1)) = ((m : Nat) : Int)) (hN : 60000 ≤ N) : OK (fun v _ => RES Fv P PR T C ND CN p mu u v) (bnd (fm_M_take N u) (fun u10 r10 => bnd (fm_M_truth N u10 1) (fun u11 r11 => br (decide ((lg_cmp r10 r11) = 0)) (fb_M_one_468 N () u11) (bnd (fr_M_guardFails N u11) (fun u12 _ => fb_M_one_468 N () u12))))) := by
  have e' := e
  rw [show ro (fr - 1) + tH T q = ro (fr - 1) + (tH T q - 1) + 1 from by omega] at e'
  unfold fb_M_one_468
  refine ok_bnd.mpr (ok_mono (takeE (N := N) e' (by omega)) (fun v r hv => ?_))
  obtain ⟨v1, v2, v3, v4⟩ := hv
  rw [truth1, bnd_so]
  refine ok_br.mpr ⟨fun _ => ok_some.mpr (nxtR e hm hx v3 (by decide) (by decide) (by decide) h98 v1.1 (FR.mo v3 (by decide) (by decide) (by decide) (by decide)) v4), fun _ => ?_⟩
  exact ok_bnd.mpr (ok_mono (fails_ok (N := N) v1 (PGM_fr hp v3 (by decide) (by decide)) (ERX_g v1 hG) hN) (fun x _ hx => ok_some.mpr (RES.tr (FR.mo v3 (by decide) (by decide) (by decide) (by decide)) v4 (fun z _ => FR.A v3 (by decide)) hx (Nat.le_refl _))))
theorem i23 (e : ERX Fv P PR T C ND CN p u fr ro rn rh cb pc ct q n ow kd (ro (fr - 1) + tH T q) (rn (fr - 1) + rh (fr - 1) + tM T q) bxM mu) (hp : PGM Fv P PR T C pM pE ND CN PN SN UN FN u) (hG : tG T q ≠ 0) (hq : tH T q = cH C (tG T q - 1)) (hN : 60000 ≤ N) : OK (fun v _ => RES Fv P PR T C ND CN p mu u v) (bnd (fm_M_chosen N u) (fun u9 _ => fb_M_one_468 N () u9)) := by
  obtain ⟨i, h2, h3, h4, h5, h6, h7, h8, h9⟩ := e
  obtain ⟨c, s, many, hg, hb, mm', r, t1, t2, t3, t4, t5⟩ : ∃ c s many hg hb m r, TRS u T C ND CN p (ro (fr - 1)) (rn (fr - 1)) (rh (fr - 1)) (tK T q) (tC T q) s many hg hb m r bxM ∧ tG T q = c + 1 ∧ F u 154 = ((c : Nat) : Int) ∧ F u 157 = ((ro (fr - 1) + hg : Nat) : Int) ∧ CLG u (sR T pc (fr - 1) + r) ((if s = 3 then (bxM : Int) - F u 158 else 0) * 16002 + tR T q + 1) mu := by
    rcases h9 with ⟨y, -⟩ | ⟨-, y⟩
    · exact absurd y hG
    · exact y
  obtain ⟨c', nc1, nc2, nc3, nc4, nc5, nc6, nc7, nc8⟩ := (hp.1.2.2.1 q h3).1.2.2.2.2.2.2.2.1 hG
  obtain rfl : c' = c := by omega
  have hgc : cH C c' = hg := by
    rcases t1.2.2.1 with u2 | ⟨c'', d1, d2, d3, d4, -⟩
    · omega
    · obtain rfl : c'' = c' := by omega
      exact d4
  have e8 : s = 3 → F u 158 < bxM := fun z => (t1.2.2.2.1 z).2.2.1
  unfold fb_M_one_468
  refine ok_bnd.mpr (ok_mono (chosen_ok (N := N) (mu := mu) (c := c') (by rw [t2, show c' + 1 - 1 = c' from by omega, hgc] at hq; rw [← hq, ← nc3]; exact i) hp.1 h2 t1 t3 h5 h6 ?_ (by omega)) (fun v _ hv => ok_some.mpr hv))
  obtain ⟨q1, q2, q3, q4⟩ := t5
  refine ⟨q1, q2, q3, ?_⟩
  by_cases es : s = 3
  · have := e8 es
    rw [if_pos es] at q4
    omega
  · rw [if_neg es] at q4
    omega
theorem i7 (e : ERX Fv P PR T C ND CN p u fr ro rn rh cb pc ct q n ow kd (ro (fr - 1) + tH T q) (rn (fr - 1) + rh (fr - 1) + tM T q) bxM mu) (hp : PGM Fv P PR T C pM pE ND CN PN SN UN FN u) (hq : tB T q + 1 ≤ tH T q) (hm : m < ND) (hx : NX T q m (tH T q) (tM T q)) (h98 : A u 98 (60 * p + (fr - 1)) = ((m : Nat) : Int)) (hN : 60000 ≤ N) : OK (fun v _ => RES Fv P PR T C ND CN p mu u v) (bnd (fm_M_take N u) (fun u27 r27 => bnd (fm_M_isTruth N u27 r27) (fun u28 r28 => br (decide (r28 = 0)) (bnd (fr_M_error N u28 11) (fun u29 _ => fb_M_otherRun_122 N () u29)) (bnd (fm_M_truth N u28 0) (fun u30 r30 => br (decide ((lg_cmp r27 r30) = 0)) (fb_M_otherRun_107 N () u30 (1)) (fb_M_otherRun_107 N () u30 (0))))))) := by
  have e' := e
  rw [show ro (fr - 1) + tH T q = ro (fr - 1) + (tH T q - 1) + 1 from by omega] at e'
  have hf := e.2.1.1
  have hro := (e.2.1.2.2.1 (fr - 1) (by omega)).2.2.2.2.1
  have hH := (hp.1.2.2.1 q e.2.2.1).1.1
  unfold fb_M_otherRun_122 fb_M_otherRun_107 fb_M_otherRun_122 fb_M_otherRun_328
  refine ok_bnd.mpr (ok_mono (takeE (N := N) e' (by omega)) (fun v r hv => ?_))
  obtain ⟨v1, v2, v3, v4⟩ := hv
  have back : ∀ x, RES Fv P PR T C ND CN p mu v x → RES Fv P PR T C ND CN p mu u x := fun x hx => RES.tr (FR.mo v3 (by decide) (by decide) (by decide) (by decide)) v4 (fun z _ => FR.A v3 (by decide)) hx (Nat.le_refl _)
  refine ok_bnd.mpr (ok_mono isTruth_ok (fun x r2 hx' => ?_))
  obtain ⟨x1, x2⟩ := hx'
  subst x1
  have pt : ∀ a : Int, 0 ≤ a ∧ a < 22 → OK (fun v _ => RES Fv P PR T C ND CN p mu u v) (bnd (fm_M_put N x (mk 1 a)) (fun u6 _ => some (u6, ()))) := fun a ha => ok_bnd.mpr (ok_mono (putR (N := N) v1 hm hx (by rw [FR.A v3 (by decide)]; exact h98) (by omega) rfl (GT_atom hp.2.1 ha) (by omega)) (fun y _ hy => ok_some.mpr (back y hy)))
  refine ok_br.mpr ⟨fun _ => ?_, fun _ => ?_⟩
  · exact ok_bnd.mpr (ok_mono (err_ok (N := N) (a := 11) v1 (PGM_fr hp v3 (by decide) (by decide)) (by omega) hN) (fun y _ hy => ok_some.mpr (back y hy)))
  · rw [truth0, bnd_so, truth1, bnd_so, truth0, bnd_so]
    exact ok_br.mpr ⟨fun _ => pt 0 (by omega), fun _ => pt 1 (by omega)⟩
end
