section
variable {Fv : Int64 → Int64 → Prop} {P : Int64 → Prop} {w w2 : MS} {PR N p n n2 opM bnM bxM ND fr k tp mu CN PN SN UN FN rq q : Nat} {ow kd ow2 kd2 ro rn rh cb pc ct pM pE : Nat → Nat} {T : TY} {C : CY}
theorem rc_s {d : Nat} : rc_M_error N (d + 1) = (fm_M_error N (rc_M_error N d), fm_M_errorOf N (rc_M_error N d), fm_M_nonePart N (rc_M_error N d), fm_M_choose N (rc_M_error N d), fm_M_guardFails N (rc_M_error N d), fm_M_goesUp N (rc_M_error N d)) := rfl
def PGM (Fv : Int64 → Int64 → Prop) (P : Int64 → Prop) (PR : Nat) (T : TY) (C : CY) (pM pE : Nat → Nat) (ND CN PN SN UN FN : Nat) (w : MS) : Prop := PRG w T C pM pE ND CN PN SN UN FN ∧ PB P PR ∧ FVH Fv ∧ ATM w ∧ ∀ t, P t → PA w t
theorem PGM_fr {is ls as js : List Nat} (h : PGM Fv P PR T C pM pE ND CN PN SN UN FN w) (f : FR is ls as js w w2) (hi : ∀ k, k ∈ [14, 52, 56] → k ∉ is) (ha : ∀ k, k ∈ 12 :: 13 :: KP → k ∉ as) : PGM Fv P PR T C pM pE ND CN PN SN UN FN w2 :=
  ⟨PRG_fr h.1 f hi (fun k hk => ha k (List.mem_cons_of_mem _ (List.mem_cons_of_mem _ hk))), h.2.1, h.2.2.1, ATM_fr h.2.2.2.1 f (hi _ (by decide)) (ha _ (by decide)), PA_fr h.2.2.2.2 f (hi _ (by decide))⟩
theorem choose_ok {d s many hg hb m r b ctt : Nat} (hp : PGM Fv P PR T C pM pE ND CN PN SN UN FN w) (h : FRS w T ND p fr ro rn rh cb pc ct k tp) (h106 : A w 106 p = ((cb (fr - 1) + k : Nat) : Int)) (h109 : A w 109 p = 0) (h152 : F w 152 = 0) (i : MEI Fv P PR w p n ow kd (ro (fr - 1) + hg) b bxM) (hb' : rn (fr - 1) + rh (fr - 1) + m ≤ b) (ht : TRS w T C ND CN p (ro (fr - 1)) (rn (fr - 1)) (rh (fr - 1)) k tp s many hg hb m r bxM) (hc1 : 1 ≤ ctt) (hd : ∀ c : Nat, F w 154 = c → cT C c + 1 < ctt) (cl : CLG w (sR T pc (fr - 1) + r) ((if s = 3 then (bxM : Int) - F w 158 else 0) * 16002 + ctt) mu) (hN : 60000 ≤ N) : OK (fun w2 _ => RES Fv P PR T C ND CN p mu w w2) (fm_M_choose N (rc_M_error N (d + 3)) w) := by
  have x4 := MEI_p i
  have b30 : bxM ≤ 30 := i.2.2.2.2.2.2.2.2.2.2.2.1.2
  have cn := hp.1.1.2.1
  obtain ⟨B, hB1, hB2, hB3⟩ : ∃ B : Nat, (s = 3 → F w 158 + B = bxM) ∧ (s ≠ 3 → B = 0) ∧ B ≤ 30 := by
    by_cases e : s = 3
    · have := (ht.2.2.2.1 e).2
      exact ⟨((bxM : Int) - F w 158).toNat, fun _ => by omega, fun z => absurd e z, by omega⟩
    · exact ⟨0, fun z => absurd z e, fun _ => rfl, by omega⟩
  obtain ⟨d0, hd0, hd1⟩ : ∃ d0 : Nat, (∀ c : Nat, F w 154 = c → CN - c = d0) ∧ d0 ≤ 1400 := ⟨CN - (F w 154).toNat, fun c hc => by omega, by omega⟩
  refine choose_loop (N := N) (S := rc_M_error N (d + 3)) (S1 := rc_M_error N (d + 2)) (S2 := rc_M_error N (d + 1)) (S3 := rc_M_error N d) rfl rfl rfl rfl hp.1 hp.2.1 hp.2.2.1 hp.2.2.2.1 hp.2.2.2.2 h h106 h109 h152 hN N B d0 b ctt w FR.rf (OTF_fr (FR.rf : FR [] [] [] [] w w) (by decide)) i hb' ht hB1 hB2 hc1 (fun c hc => ⟨hd0 c hc, hd c hc⟩) ?_ (by omega)
  obtain ⟨e1, e2, e3, e4⟩ := cl
  refine ⟨e1, e2, e3, ?_⟩
  by_cases e : s = 3
  · have := hB1 e
    rw [if_pos e] at e4
    omega
  · have := hB2 e
    rw [if_neg e] at e4
    omega
def ERX (Fv : Int64 → Int64 → Prop) (P : Int64 → Prop) (PR : Nat) (T : TY) (C : CY) (ND CN p : Nat) (w : MS) (fr : Nat) (ro rn rh cb pc ct : Nat → Nat) (q n : Nat) (ow kd : Nat → Nat) (opM bnM bxM mu : Nat) : Prop :=
  MEI Fv P PR w p n ow kd opM bnM bxM ∧ FRS w T ND p fr ro rn rh cb pc ct (tK T q) (tC T q) ∧ q < ND ∧ rh (fr - 1) = tL T q ∧ A w 106 p = ((cb (fr - 1) + tK T q : Nat) : Int) ∧ A w 109 p = 0 ∧ ro (fr - 1) + tB T q ≤ opM ∧ rn (fr - 1) + rh (fr - 1) + tM T q ≤ bnM ∧ MODE w T C ND CN p (ro (fr - 1)) (rn (fr - 1)) (rh (fr - 1)) (sR T pc (fr - 1)) q bxM mu
theorem ERX_0 (e : ERX Fv P PR T C ND CN p w fr ro rn rh cb pc ct q n ow kd opM bnM bxM mu) (hg : PRG w T C pM pE ND CN PN SN UN FN) (h152 : F w 152 = 0) : ER0 Fv P PR T ND p w fr ro rn rh cb pc ct (tK T q) (tC T q) n ow kd opM bnM bxM (tR T q) mu := by
  obtain ⟨h1, h2, h3, h4, h5, h6, h7, h8, h9⟩ := e
  obtain ⟨n1, n2, n3, n4, n5, n6, n7, -⟩ := (hg.2.2.1 q h3).1
  refine ⟨h1, h2, fun z => ?_, ⟨by omega, by omega⟩, h5, n3, h6, h152, ?_⟩
  · obtain ⟨-, -, -, -, s5, s6, s7⟩ := n7 z
    exact ⟨by omega, by omega, s7⟩
  · rcases h9 with ⟨-, -, y⟩ | ⟨y, -⟩
    · obtain ⟨e1, e2, e3, e4⟩ := y
      exact ⟨e1, e2, e3, by omega⟩
    · omega
theorem guardFails_ok {d : Nat} (e : ERX Fv P PR T C ND CN p w fr ro rn rh cb pc ct q n ow kd opM bnM bxM mu) (hp : PGM Fv P PR T C pM pE ND CN PN SN UN FN w) (h152 : F w 152 = 1) (hN : 60000 ≤ N) : OK (fun w2 _ => RES Fv P PR T C ND CN p mu w w2) (fm_M_guardFails N (rc_M_error N (d + 4)) w) := by
  obtain ⟨i, h2, h3, h4, h5, h6, h7, h8, h9⟩ := e
  have x4 := MEI_p i
  obtain ⟨-, c, s, many, hg, hb, m, r, t1, t2, t3, t4, t5⟩ : F w 152 = 1 ∧ ∃ c s many hg hb m r, TRS w T C ND CN p (ro (fr - 1)) (rn (fr - 1)) (rh (fr - 1)) (tK T q) (tC T q) s many hg hb m r bxM ∧ tG T q = c + 1 ∧ F w 154 = ((c : Nat) : Int) ∧ F w 157 = ((ro (fr - 1) + hg : Nat) : Int) ∧ CLG w (sR T pc (fr - 1) + r) ((if s = 3 then (bxM : Int) - F w 158 else 0) * 16002 + tR T q + 1) mu := by
    rcases h9 with ⟨-, y, -⟩ | y
    · omega
    · exact y
  obtain ⟨c', nc1, nc2, nc3, nc4, nc5, nc6, nc7, nc8⟩ := (hp.1.2.2.1 q h3).1.2.2.2.2.2.2.2.1 (by omega)
  obtain rfl : c' = c := by omega
  have u2' : CLS C w CN many hg hb m (rh (fr - 1)) (tK T q) (tC T q) r ((c' : Nat) : Int) := by
    rcases t1.2.2.1 with u2 | u2
    · omega
    · rw [← t3]; exact u2
  obtain ⟨-, -, k3, k4, k5, -, -, -, cx⟩ := cls_c (s := 0) hp.1 u2'
  have cn := hp.1.1.2.1
  have s7 := t1.1.2.2.2.2.2.2.2.1
  have hf60 := h2.1
  have hro := (h2.2.2.1 (fr - 1) (by omega)).2.2.2.2.1
  unfold fm_M_guardFails fb_M_guardFails_0
  refine ok_lt.mpr ?_
  rw [show upI w 152 0 = wi w 152 0 from rfl]
  have f1 : FR [152] [] [] [] w (wi w 152 0) := FR.wi FR.rf (by decide)
  have e1 : F (wi w 152 0) 152 = 0 := by rw [F_wi (by decide) (by decide), if_pos rfl]
  have i1 := MEI_ints i f1 (by decide)
  generalize wi w 152 0 = w1 at *
  have e157 : F w1 157 = ((ro (fr - 1) + hg : Nat) : Int) := by rw [FR.F f1 (by decide)]; exact t4
  rw [I_F' i1.2.2.1, I_F' e157]
  refine ok_ck.mpr ⟨inb_at (k := 92) (n := 24) rfl (by omega) (by omega) (by decide), ok_lt.mpr ?_⟩
  rw [I_tn (x := (p : Int)) (by omega) (by omega), Int.toNat_natCast, wa_e]
  have f2 : FR [152] [] [92] [] w (wa w1 92 p ((ro (fr - 1) + hg : Nat) : Int)) := FR.wa (FR.mo f1 (by decide) (by decide) (by decide) (by decide)) (by decide)
  have o2 : OTF p w (wa w1 92 p ((ro (fr - 1) + hg : Nat) : Int)) := OTF.tr (OTF_fr f1 (by decide)) (OTF_at (FR.wa FR.rf (by decide) : FR [] [] [92] [] w1 _) (i0 := p) (fun j hj => by rw [A_eq (by omega) (by omega), if_neg hj]) (Or.inl ⟨by decide, rfl⟩))
  have e2 : F (wa w1 92 p ((ro (fr - 1) + hg : Nat) : Int)) 152 = 0 := e1
  have i2 := ops_less i1 (k := ro (fr - 1) + hg) (by omega)
  generalize wa w1 92 p ((ro (fr - 1) + hg : Nat) : Int) = v2 at *
  have c2 : F v2 154 = c' := by rw [FR.F f2 (by decide)]; exact t3
  rw [I_F' c2]
  refine ok_ck.mpr ⟨inb_at (k := 45) (n := 1400) rfl (by omega) (by omega) (by decide), ok_lt.mpr ?_⟩
  have r45 := A_r v2 45 c'
  rw [I_tn (x := (c' : Int)) (by omega) (by omega), Int.toNat_natCast, I_A (k := 45), wi_e]
  have f3 : FR [152, 154] [] [92] [] w (wi v2 154 (A v2 45 c')) := FR.wi (FR.mo f2 (by decide) (by decide) (by decide) (by decide)) (by decide)
  have o3 : OTF p w (wi v2 154 (A v2 45 c')) := OTF.tr o2 (OTF_fr (FR.wi FR.rf (by decide) : FR [154] [] [] [] v2 _) (by decide))
  have e3 : F (wi v2 154 (A v2 45 c')) 152 = 0 := by rw [F_wi r45.1 r45.2, if_neg (by decide)]; exact e2
  have e34 : F (wi v2 154 (A v2 45 c')) 154 = A w 45 c' := by rw [F_wi r45.1 r45.2, if_pos rfl, FR.A f2 (by decide)]
  have i3 := MEI_ints i2 (FR.wi FR.rf (by decide) : FR [154] [] [] [] v2 (wi v2 154 (A v2 45 c'))) (by decide)
  generalize wi v2 154 (A v2 45 c') = w3 at *
  have e8 : F w3 158 = F w 158 := FR.F f3 (by decide)
  have nx : F w3 154 = -1 ∨ CLS C w CN many hg hb m (rh (fr - 1)) (tK T q) (tC T q) r (F w3 154) := by
    rw [e34]
    rcases cx with cx | ⟨d2, y1, y2, y3, y4⟩
    · exact Or.inl cx
    · exact Or.inr (by rw [y1]; exact y4)
  clear cx
  have tr := TRS_at t1 f3 (by decide) (by decide) (by decide) nx (fun z => by rw [e8]; exact ⟨(t1.2.2.2.1 z).2.1, (t1.2.2.2.1 z).2.2.1⟩)
  have := choose_ok (N := N) (d := d) (mu := mu) (ctt := tR T q + 1) (PGM_fr hp f3 (by decide) (by decide)) (FRS_fr h2 f3 (by decide) (by decide) (by decide) (by decide) (by decide) (by decide) (by decide) (by decide) (by decide) (by decide)) (by rw [FR.A f3 (by decide)]; exact h5) (by rw [FR.A f3 (by decide)]; exact h6) e3 i3 (by omega) tr (by omega) (fun c hc => by have := nc8 c (by rw [← e34]; exact hc); omega) (by obtain ⟨q1, q2, q3, q4⟩ := t5; unfold CLG; rw [FR.F f3 (by decide), FR.F f3 (by decide), e8]; exact ⟨q1, q2, q3, by omega⟩) hN
  exact ok_bnd.mpr (ok_mono this (fun u _ hu => ok_some.mpr (RES.tr (FR.mo f3 (by decide) (by decide) (by decide) (by decide)) o3 (fun z _ => FR.A f3 (by decide)) hu (Nat.le_refl _))))
theorem up_ok {t : Int64} {kn : Int} {d : Nat} (e : ERX Fv P PR T C ND CN p w fr ro rn rh cb pc ct q n ow kd opM bnM bxM mu) (hp : PGM Fv P PR T C pM pE ND CN PN SN UN FN w) (g : GT n ow kd P t) (hk : 0 ≤ kn ∧ kn ≤ 2) (hN : 60000 ≤ N) : OK (fun w2 _ => RES Fv P PR T C ND CN p mu w w2) (fm_M_goesUp N (rc_M_error N (d + 5)) w (I kn) t) := by
  have h9 := e.2.2.2.2.2.2.2.2
  by_cases h152 : F w 152 = 0
  · exact ok_mono (up0 (ERX_0 e hp.1 h152) hp.1 hp.2.1 g hk hN) (fun v _ h => RES_stp h)
  · have h1 : F w 152 = 1 := by
      rcases h9 with ⟨-, y, -⟩ | ⟨y, -⟩
      · exact absurd y h152
      · exact y
    clear h9
    unfold fm_M_goesUp fb_M_goesUp_0
    rw [I_F' h1, lit0q, decE (by omega) (by omega) (by omega) (by omega), decide_eq_false (by omega), br_fq, rc_s]
    exact ok_bnd.mpr (ok_mono (guardFails_ok (d := d) e hp h1 hN) (fun u _ hu => ok_some.mpr hu))
theorem err_ok {a : Int} (e : ERX Fv P PR T C ND CN p w fr ro rn rh cb pc ct q n ow kd opM bnM bxM mu) (hp : PGM Fv P PR T C pM pE ND CN PN SN UN FN w) (ha : 0 ≤ a ∧ a < 22) (hN : 60000 ≤ N) : OK (fun w2 _ => RES Fv P PR T C ND CN p mu w w2) (fr_M_error N w (I a)) := by
  unfold fr_M_error
  rw [show (20 : Nat) = 19 + 1 from rfl, rc_s]
  show OK _ (fm_M_error N (rc_M_error N 19) w (I a))
  unfold fm_M_error fb_M_error_0
  rw [lit1q, term_e, bnd_so, show (19 : Nat) = 18 + 1 from rfl, rc_s]
  exact ok_bnd.mpr (ok_mono (up_ok (kn := 0) (d := 13) e hp (Or.inl ⟨nh_mk (by omega), hp.2.1.1 a ha.1 ha.2⟩) (by omega) hN) (fun v _ h => ok_some.mpr h))
theorem errOf_ok {a : Int} {t : Int64} (e : ERX Fv P PR T C ND CN p w fr ro rn rh cb pc ct q n ow kd opM bnM bxM mu) (hp : PGM Fv P PR T C pM pE ND CN PN SN UN FN w) (g : GT n ow kd P t) (ha : 0 ≤ a ∧ a < 22) (hN : 60000 ≤ N) : OK (fun w2 _ => RES Fv P PR T C ND CN p mu w w2) (fr_M_errorOf N w (I a) t) := by
  have h9 := e.2.2.2.2.2.2.2.2
  unfold fr_M_errorOf
  rw [show (20 : Nat) = 19 + 1 from rfl, rc_s]
  show OK _ (fm_M_errorOf N (rc_M_error N 19) w (I a) t)
  by_cases h152 : F w 152 = 0
  · exact ok_mono (errorOf0 (S2 := rc_M_error N 18) rfl (ERX_0 e hp.1 h152) hp.1 hp.2.1 g ha hN) (fun v _ h => RES_stp h)
  · have h1 : F w 152 = 1 := by
      rcases h9 with ⟨-, y, -⟩ | ⟨y, -⟩
      · exact absurd y h152
      · exact y
    clear h9
    unfold fm_M_errorOf fb_M_errorOf_0
    rw [I_F' h1, lit0q, decE (by omega) (by omega) (by omega) (by omega), decide_eq_false (by omega), br_fq, show (19 : Nat) = 18 + 1 from rfl, rc_s]
    exact ok_bnd.mpr (ok_mono (guardFails_ok (d := 14) e hp h1 hN) (fun u _ hu => ok_some.mpr hu))
theorem fails_ok (e : ERX Fv P PR T C ND CN p w fr ro rn rh cb pc ct q n ow kd opM bnM bxM mu) (hp : PGM Fv P PR T C pM pE ND CN PN SN UN FN w) (h1 : F w 152 = 1) (hN : 60000 ≤ N) : OK (fun w2 _ => RES Fv P PR T C ND CN p mu w w2) (fr_M_guardFails N w) := by
  unfold fr_M_guardFails
  rw [show (20 : Nat) = 19 + 1 from rfl, rc_s]
  exact guardFails_ok (d := 15) e hp h1 hN
theorem ups_ok {t : Int64} {kn : Int} (e : ERX Fv P PR T C ND CN p w fr ro rn rh cb pc ct q n ow kd opM bnM bxM mu) (hp : PGM Fv P PR T C pM pE ND CN PN SN UN FN w) (g : GT n ow kd P t) (hk : 0 ≤ kn ∧ kn ≤ 2) (hN : 60000 ≤ N) : OK (fun w2 _ => RES Fv P PR T C ND CN p mu w w2) (fr_M_goesUp N w (I kn) t) := by
  unfold fr_M_goesUp
  rw [show (20 : Nat) = 19 + 1 from rfl, rc_s]
  exact up_ok (d := 14) e hp g hk hN
end
