/-! an error, an exit come to their catch -/
set_option maxRecDepth 100000
section
variable {b : Int → Nat → Nat → Prop} {N p j e e' : Nat} {m w m2 w2 : MS} {x : Int64} {z : Int}
theorem FGm_xr (f : XRm p m m2) : FGm p m m2 := FR.mo f (by simp) (by simp) (by simp) (by simp)
theorem FGm_pa (f : FR [pq p 4] [] [] [pq p 2] m m2) : FGm p m m2 := FR.mo f (by simp) (by simp) (by simp) (by simp)
theorem FGw_xr (h : XRr p w w2) : FGw p j w w2 := by
  obtain ⟨a1, a2, a3, a4, a5, a6⟩ := h
  exact ⟨FR.mo a1 (by simp) (by simp) (by simp) (by simp), fun k hk => ⟨(a2 k hk).1, (a2 k hk).2, FR.A a1 (by simp)⟩, fun k _ => FR.A a1 (by simp), a3, a4, a5, a6⟩
theorem FGw_hand : FGw p j w (wl (wi w 140 z) 139 x) := ⟨FR.wl (FR.wi FR.rf (by simp)) (by simp), fun _ _ => ⟨rfl, rfl, rfl⟩, fun _ _ => rfl, fun _ _ => rfl, fun _ _ => rfl, fun _ _ => rfl, fun _ _ => rfl⟩
theorem FGw_two (f : FR [] [] [89] [88] w w2) (h1 : ∀ r, r ≠ p → A w2 89 r = A w 89 r) (h2 : ∀ i, ¬ (500 * p ≤ i ∧ i < 500 * p + 500) → w2.2.2.2 88 i = w.2.2.2 88 i) : FGw p j w w2 := ⟨FR.mo f (by simp) (by simp) (by simp) (by simp), fun k hk => ⟨h1 k hk, by rw [f.2.2.1 90 (by simp)], FR.A f (by simp)⟩, fun k _ => FR.A f (by simp), h2, fun i _ => by rw [f.2.2.2 91 (by simp)], fun i _ => by rw [f.2.2.2 93 (by simp)], fun i _ => by rw [f.2.2.2 107 (by simp)]⟩
theorem ends_e (hpp : p < 24) (h3 : F w 133 = ((p : Nat) : Int)) (h9 : A w 109 p ≠ 3) (he : F w 150 = ((e : Nat) : Int)) (hl : e < 4000) : fm_M_ends N w (I z) x = some (wi (enR w p z ((p : Nat) : Int) x e) 151 1, ()) := by
  unfold fm_M_ends fb_M_ends_0
  rw [I_F' h3, willE_e (q := p) (wr := z) (o := ((p : Nat) : Int)) (t := x) (by omega) h9 he hl hpp, bnd_so, show (1 : Int32) = I 1 from rfl, wi_e]
  rfl
theorem noR_e (hpp : p < 24) (h3 : F w 133 = ((p : Nat) : Int)) (h9 : A w 109 p ≠ 3) (he : F w 150 = ((e : Nat) : Int)) (hl : e < 4000) : fm_M_noRoom N w = some (wi (enR w p 0 ((p : Nat) : Int) (mk 1 20) e) 151 1, ()) := by
  unfold fm_M_noRoom fb_M_noRoom_0
  rw [show (1 : Int32) = I 1 from rfl, show (20 : Int32) = I 20 from rfl, term_e, bnd_so, lit0, ends_e hpp h3 h9 he hl, bnd_so]
end
section
variable {p c r B0 W0 : Nat} {m : MS}
theorem unS_28 (hc : c < 2000) : F (unS m p c r B0 W0) (pq p 28) = ((c : Nat) : Int) := by
  show (if pq p 28 = pq p 26 then _ else if pq p 28 = pq p 24 then _ else if pq p 28 = pq p 21 then _ else if pq p 28 = pq p 28 then I ((c : Nat) : Int) else _).toInt = _
  rw [if_neg (pq_inj (by omega)), if_neg (pq_inj (by omega)), if_neg (pq_inj (by omega)), if_pos rfl]
  exact I_ti (by omega) (by omega)
end
section
variable {α β : Type} {b : Int → Nat → Nat → Prop} {N p U B W Wc Y j a n c r B0 W0 k a0 nd nn ee ee' l : Nat} {m w m2 w2 : MS} {t x : Int64} {nb : Nat → Nat} {Hs Os : Nat → List Nat} {Q : MS → α → MS → β → Prop} {K1 : MS → Option (MS × α)} {K2 : MS → Option (MS × β)} {S : SG_M_error} {ow kd ow' kd' : Nat → Nat} {Fv Fv' : Int64 → Int64 → Prop} {P P' : Int64 → Prop} {how kn v : Int}
/-- an error, an exit come to their catch -/
theorem err_c (hv : (how = 1 ∧ kn = 0 ∧ v = 7) ∨ (how = 2 ∧ kn = 1 ∧ v = 8)) (hpp : p < 24) (pl : PLs b p (wi m (pq p 26) ((W : Nat) : Int)) w U B W Y) (ru : RUb m w p j nb Hs Os none) (h28 : F m (pq p 28) = ((c + 1 : Nat) : Int)) (hc : c < 1600) (hW0 : A w 104 (1600 * p + c) = ((W0 : Nat) : Int)) (hW : W0 ≤ W ∧ W ≤ Wc) (bd : B ≤ 2500 ∧ W < 46000) (lb : LNB m p) (pt : PTQ m p U ow kd Fv P B Wc Y) (cx : CTX Fv P m) (xc : CX w p (hp w p) U ow' kd' Fv' P' W B Y) (g : GT U ow kd P (m.2.1 1110)) (g' : GT U ow' kd' P' x) (rt : RTb b (m.2.1 1110) x) (hnd : ∀ nd : Nat, A w 103 (1600 * p + c) = ((nd : Nat) : Int) → nd < 2147483648) (hee : F m 955 = ((ee : Nat) : Int) ∧ ee < 24) (hee' : F w 150 = ((ee' : Nat) : Int) ∧ ee' < 4000) (hN : 2200000 ≤ N)
    (kk : ∀ b3 U3 r k a0 nn m3 w3, PLs b3 p m3 w3 U3 (nb r + (Hs r).length + k) (W0 + 1) Y → RUs m3 w3 p r nb Hs (tkO Os r k) none a0 nn → GGm p m m3 → GGw p w w3 → (SCs p m w → SCs p m3 w3) → PP Q (K1 m3) (K2 w3))
    (ke : ∀ m3 w3, GGm p m m3 → GGw p w w3 → (SCs p m w → SCs p m3 w3) → m3.1 (pq p 5) = w3.2.2.1 90 p → PP Q (K1 (enS m3 p (mk 1 20) p ee)) (K2 (wi (enR w3 p 0 ((p : Nat) : Int) (mk 1 20) ee') 151 1))) : PP Q (bnd (hb_Ma_raise_65 N () m p (I how)) (fun u _ => K1 u)) (bnd (fm_M_goesUp N S w (I kn) x) (fun u _ => K2 u)) := by
  obtain ⟨⟨fa, ct⟩, ⟨r5, r6⟩, r7, ⟨r8, r9, r10⟩, r11, r12, r13⟩ := id ru
  have h152 : F w 152 = 0 := by
    rcases r7 with ⟨_, _, c3⟩ | ⟨_, _, _, c, _⟩
    · exact c3
    · cases c
  have h106 : A w 106 p = ((c + 1 : Nat) : Int) := by
    obtain ⟨n', c1, c2, -⟩ := ct
    rw [c2, ← c1]; exact h28
  obtain ⟨r, k, a0, nd, nn, s1, s2, s3, s4, s5, s6, s7, s8, s9, s10, s11⟩ := CT_last ct h28
  have hj : j < 60 := fa.1.2.2
  have hB : nb r + (Hs r).length + k ≤ B := by
    have h1 := nb_le fa (j - r) r (by omega)
    have h2 := fa.2.2.2
    have h3 := pl.2.1.1
    rw [wi_ne (pq_inj (by omega)), h2, List.length_append] at h3
    omega
  have a024 := A_r m (pq p 37) (4 * c + 3)
  rw [s8] at a024
  have bb := PTQ_b pt
  unfold hb_Ma_raise_65
  rw [I_F' h28, lit0, decE (by omega) (by omega) (by omega) (by omega), decide_eq_false (by omega), br_f, bb_e]
  refine l_bnd (pk_mo (unwind_m (N := N) (r := r) (B0 := nb r + (Hs r).length + k) (W0 := W0) (a0 := a0) h28 (by omega) s2 s4 (by rw [s7]; exact hW0) s8) (fun m2 z e => ?_))
  obtain ⟨rfl, rfl⟩ := e
  rw [wi_e]
  refine goes_c (r := r) (B0 := nb r + (Hs r).length + k) (W0 := W0) hpp h152 r11 h106 hc s3 (by omega) s5 hW0 ?_
  have fS : PLs b p (unS m p c r (nb r + (Hs r).length + k) W0) (unR w p c r (nb r + (Hs r).length + k) W0) U (nb r + (Hs r).length + k) W0 Y := PL_fall pl hB hW.1 ⟨by omega, by omega⟩
  have fS2 := PLs_pc (z := ((a0 : Nat) : Int)) fS
  have fa2 := FA_fall (c := c) (W0 := W0) fa s1 s6
  have pS : PTQ (wi (unS m p c r (nb r + (Hs r).length + k) W0) 1105 ((a0 : Nat) : Int)) p U ow kd Fv P (nb r + (Hs r).length + k) W0 Y := PTQ_same (PTQ_fall pt hB (by omega)) (fun k hk => if_neg (fun c => pq_n (by omega) c.symm)) (fun _ _ => rfl)
  have lS : LNB (wi (unS m p c r (nb r + (Hs r).length + k) W0) 1105 ((a0 : Nat) : Int)) p := LNB_28 lb (fun k hk => (if_neg (fun c => pq_n (by omega) c.symm)).trans (unS_q (by simp at hk; omega) (by simp at hk; omega) (by simp at hk; omega) (by simp at hk; omega))) (by
    have e28 : F (wi (unS m p c r (nb r + (Hs r).length + k) W0) 1105 ((a0 : Nat) : Int)) (pq p 28) = ((c : Nat) : Int) := by
      rw [wi_ne (fun c => pq_n (by omega) c.symm)]
      exact unS_28 (by omega)
    have := LNB_c lb
    rw [h28] at this
    rw [e28]
    omega)
  have hcl : ∀ u : MS, br (decide (I how = 3)) (hb_Ma_raise_172 N () u p) (br (decide (I how = 1)) (hb_Ma_raise_168 N () u p 7) (hb_Ma_raise_168 N () u p 8)) = bnd (hm_Ma_wrap N u p (I v)) (fun u1 _ => some (u1, ())) := fun u => by
    rcases hv with ⟨rfl, rfl, rfl⟩ | ⟨rfl, rfl, rfl⟩ <;> rfl
  have hrf : br (decide (I kn = 2)) (bnd (fm_M_put N (unR w p c r (nb r + (Hs r).length + k) W0) x) (fun u15 _ => fb_M_goesUp_205 N S () u15 (I ((1600 * p + c : Nat) : Int)))) (bnd (fm_M_hand N (unR w p c r (nb r + (Hs r).length + k) W0) (I ((p : Nat) : Int)) x) (fun u10 _ => bnd (fm_M_wants N u10 (u10.1 133) 3) (fun u11 r11 => br (decide (r11 = 0)) (bnd (fm_M_handNone N u11) (fun u13 _ => bnd (fm_M_noRoom N u13) (fun u14 _ => some (u14, ())))) (bnd (fm_M_handNone N u11) (fun u12 _ => br (decide (I kn = 0)) (fb_M_goesUp_197 N S () u12 (I ((1600 * p + c : Nat) : Int)) (u11.2.1 139) 7) (fb_M_goesUp_197 N S () u12 (I ((1600 * p + c : Nat) : Int)) (u11.2.1 139) 8)))))) = bnd (fm_M_wants N (wl (wi (unR w p c r (nb r + (Hs r).length + k) W0) 140 ((p : Nat) : Int)) 139 x) ((wl (wi (unR w p c r (nb r + (Hs r).length + k) W0) 140 ((p : Nat) : Int)) 139 x).1 133) 3) (fun u11 r11 => br (decide (r11 = 0)) (bnd (fm_M_noRoom N (wl (wi u11 140 (-1)) 139 (mk 6 0))) (fun u14 _ => some (u14, ()))) (fb_M_goesUp_197 N S () (wl (wi u11 140 (-1)) 139 (mk 6 0)) (I ((1600 * p + c : Nat) : Int)) (u11.2.1 139) (I v))) := by
    rcases hv with ⟨rfl, rfl, rfl⟩ | ⟨rfl, rfl, rfl⟩ <;> rfl
  rw [hrf]
  show PP Q (bnd (bnd (hm_Fr_push N (wi (unS m p c r (nb r + (Hs r).length + k) W0) 1105 ((a0 : Nat) : Int)) p (m.2.1 1110)) (fun u19 r19 => br (decide (I how = 3)) (hb_Ma_raise_172 N () u19 p) (br (decide (I how = 1)) (hb_Ma_raise_168 N () u19 p 7) (hb_Ma_raise_168 N () u19 p 8)))) (fun u _ => K1 u)) _
  rw [bb_e]
  obtain ⟨l, e45, lw, lm⟩ := pS.2.2.2.2.2.1
  refine l_bnd (pk_mo (pk_and (push_m (N := N) (t := m.2.1 1110) fS2.2.2.1.1 e45 lw lm) (pk_ok (push_t (N := N) (t := m.2.1 1110) pS lS (by omega) g))) (fun m3 _ h => ?_))
  obtain ⟨⟨h1, h2, h3⟩, -, p3, -⟩ := h
  rw [hcl]
  unfold hm_Ma_wrap hb_Ma_wrap_0
  have i3 : ∀ d, d < 2000 → d ≠ 1105 → m3.1 d = m.1 d := fun d hd h5 => by
    rw [h1.1 d (by simp; unfold pq; omega), show (wi (unS m p c r (nb r + (Hs r).length + k) W0) 1105 ((a0 : Nat) : Int)).1 d = (unS m p c r (nb r + (Hs r).length + k) W0).1 d from if_neg h5, unS_1 hd]
  have q3 : ∀ d, d < 100 → d ≠ 21 → d ≠ 24 → d ≠ 26 → d ≠ 28 → d ≠ 45 → m3.1 (pq p d) = m.1 (pq p d) := fun d hd d1 d2 d3 d4 d5 => by
    rw [h1.1 _ (by
      simp only [List.mem_cons, List.not_mem_nil, or_false]
      intro z
      rcases z with z | z
      · exact pq_inj d3 z
      · exact pq_inj d5 z), show (wi (unS m p c r (nb r + (Hs r).length + k) W0) 1105 ((a0 : Nat) : Int)).1 (pq p d) = (unS m p c r (nb r + (Hs r).length + k) W0).1 (pq p d) from if_neg (fun c => pq_n (by omega) c.symm), unS_q d1 d2 d3 d4]
  have a3 : m3.2.2.1 = m.2.2.1 := by funext K; exact h1.2.2.1 K (by simp)
  have u133 : F (unR w p c r (nb r + (Hs r).length + k) W0) 133 = ((p : Nat) : Int) := r11
  have pl3 : PLs b p (wi m3 (pq p 26) ((W0 : Nat) : Int)) (unR w p c r (nb r + (Hs r).length + k) W0) U (nb r + (Hs r).length + k) W0 Y := by
    have jn : ∀ d, d ≠ 35 → m3.2.2.2 (pq p d) = m.2.2.2 (pq p d) := fun d hd => h1.2.2.2 _ (by simp; exact pq_inj hd)
    refine PLs_cg fS2 (fun d hd => ?_) (fun i _ => by show m3.2.2.2 (pq p 2) i = _; rw [jn 2 (by omega)]; rfl) (fun i _ => by show m3.2.2.2 (pq p 33) i = _; rw [jn 33 (by omega)]; rfl) (fun i hi => by show m3.2.2.2 (pq p 35) i = _; rw [h3 i (by omega), if_neg (by omega)]) (fun i _ => by show m3.2.2.2 (pq p 6) i = _; rw [jn 6 (by omega)]; rfl) (fun _ _ => rfl) (fun _ _ => rfl) (fun _ _ => rfl) (fun _ _ => rfl) (fun _ _ => rfl)
    by_cases d6 : d = 26
    · subst d6
      rw [I_F' fS2.2.2.1.1]
      exact if_pos rfl
    · rw [show (wi m3 (pq p 26) ((W0 : Nat) : Int)).1 (pq p d) = m3.1 (pq p d) from if_neg (pq_inj d6)]
      exact h1.1 _ (by
        simp only [List.mem_cons, List.not_mem_nil, or_false] at hd ⊢
        intro z
        rcases z with z | z
        · exact pq_inj d6 z
        · exact pq_inj (by omega) z)
  have rp := room_pe (N := N) (e := 1) (ee := ee) p3 (CTX_fr cx (i3 22 (by omega) (by omega)) (by rw [a3])) (CX_fall (c := c) (r := r) xc hB hW.1) pl3 (fun i c1 c2 => by
    have : i = W0 := by omega
    subst this
    rw [h3 i (Nat.le_refl _), if_pos rfl]
    exact rt) g' (by omega) (by omega) (by
    show (m3.1 (pq p 9)).toInt ≠ 3
    rw [q3 9 (by omega) (by omega) (by omega) (by omega) (by omega) (by omega)]
    have : (m.1 (pq p 9)).toInt = 0 := r5
    omega) ⟨by show (m3.1 955).toInt = _; rw [i3 955 (by omega) (by omega)]; exact hee.1, hee.2⟩ u133 hN
  rw [hand_e, bnd_so] at rp
  rw [bb_e, bb_e, bb_e]
  have f3 : FGm p (unS m p c r (nb r + (Hs r).length + k) W0) m3 := FGm.tr FGm.pc (FGm.push h1)
  refine pp_bb (pp_mo rp (fun m4 r4 w4 r5' q9 => ?_))
  rcases q9 with ⟨rfl, rfl, a4, a5, b2, U2, pl4, hx4, rm4, ⟨ow2, kd2, pt4⟩, -⟩ | ⟨rfl, rfl, m5, a4, a5, rfl, h5⟩
  · rw [show decide ((1 : Int32) = 0) = false from rfl, br_f, br_f]
    obtain ⟨l4, e1, e2, e3⟩ := pt4.2.2.2.2.2.1
    have be : hm_Fr_below N m4 p 0 = some (m4, m4.2.2.2 (pq p 35) W0) := by
      have := below_e (N := N) (x := 0) (k := 0) (W := W0 + 1) (l := l4) pt4.2.2.1.1 e1 e2 e3 rfl (by omega)
      rw [show W0 + 1 - 1 - 0 = W0 by omega] at this
      exact this
    have w133 : F (wl (wi w4 140 (-1)) 139 (mk 6 0)) 133 = ((p : Nat) : Int) := by
      rw [F_wl, wi_ne (by omega), FR.F a5.1 (by simp), F_wl, wi_ne (by omega)]
      exact r11
    rw [be, bnd_so]
    unfold fb_M_goesUp_197
    rw [bb_e, bb_e]
    have hU4 : F m4 (pq p 4) = ((U2 : Nat) : Int) := pt4.1.1
    have hu4 : A (wl (wi w4 140 (-1)) 139 (mk 6 0)) 89 p = ((U2 : Nat) : Int) := pl4.1.1.2.1
    refine pp_bb (pp_mo (pair_pp (N := N) (b := b2) (t := m4.2.2.2 (pq p 35) W0) (x := w4.2.1 139) (v := v) hpp w133 hU4 hu4 rm4 pl4.1.2.1 (hx4 W0 (Nat.le_refl _) (by omega)) ⟨by omega, by omega⟩) (fun m6 t6 w6 x6 q6 => ?_))
    obtain ⟨b3, is6, rt6, mo, ⟨u6, v6⟩, fm6, fw6, l6, l6'⟩ := q6
    have i6 : ∀ d, d ≠ 4 → m6.1 (pq p d) = m4.1 (pq p d) := fun d hd => fm6.1 _ (by simp; exact pq_inj hd)
    have e26 : F m6 (pq p 26) = ((W0 + 1 : Nat) : Int) := by
      show (m6.1 (pq p 26)).toInt = _
      rw [i6 26 (by omega)]; exact pt4.2.2.1.1
    unfold hm_Ma_answer hb_Ma_answer_0
    rw [show (1 : Int32) = I 1 from rfl, drop_e (W := W0 + 1) (k := 1) (x := 1) e26 rfl (by omega), bnd_so, Nat.add_sub_cancel, bb_e, bb_e, bb_e]
    have pl6 : PLs b3 p (wi m6 (pq p 26) ((W0 : Nat) : Int)) w6 (U2 + 3) (nb r + (Hs r).length + k) W0 Y := by
      refine PLs_new (PLs_h (o := -1) (t := mk 6 0) pl4) mo (fun d hd => ?_) (fun d hd => ?_) (fun K hK => by rw [fw6.2.2.1 K (by simp at hK ⊢; omega)]) (fun K hK => fw6.2.2.2 K (by simp at hK ⊢; omega)) ?_ v6 (by omega) is6
      · by_cases d6 : d = 26
        · subst d6
          show (if pq p 26 = pq p 26 then _ else _) = (if pq p 26 = pq p 26 then _ else _)
          rw [if_pos rfl, if_pos rfl]
        · show (if pq p d = pq p 26 then _ else m6.1 (pq p d)) = (if pq p d = pq p 26 then _ else m4.1 (pq p d))
          rw [if_neg (pq_inj d6), if_neg (pq_inj d6), i6 d (by simp at hd; omega)]
      · show m6.2.2.2 (pq p d) = m4.2.2.2 (pq p d)
        exact fm6.2.2.2 _ (by simp; exact pq_inj (by simp at hd; omega))
      · rw [wi_ne (pq_inj (by omega))]; exact u6
    have e45' : F (wi m6 (pq p 26) ((W0 : Nat) : Int)) (pq p 45) = ((l4 : Nat) : Int) := by
      rw [wi_ne (pq_inj (by omega))]
      show (m6.1 (pq p 45)).toInt = _
      rw [i6 45 (by omega)]; exact e1
    refine l_bnd (pk_mo (push_m (N := N) (t := t6) pl6.2.2.1.1 e45' (by omega) e3) (fun m8 _ h => ?_))
    obtain ⟨z1, z2, z3⟩ := h
    have w6' : F w6 133 = ((p : Nat) : Int) := by rw [FR.F fw6 (by simp)]; exact w133
    refine r_bnd (pk_mo (put_r (N := N) (x := x6) hpp w6' pl6.2.2.1.2.1 (by omega)) (fun w8 _ h => ?_))
    subst h
    have pl8 := PLs_push pl6 rt6 z1 z2 z3
    show PP Q (K1 m8) _
    have g6 : FGw p r (unR w p c r (nb r + (Hs r).length + k) W0) w6 := FGw.tr (FGw.tr (FGw.tr FGw_hand (FGw_xr a5)) FGw_hand) (FGw_two fw6 l6 l6')
    have g8 : FGw p r (unR w p c r (nb r + (Hs r).length + k) W0) (wa (wj w6 91 (46000 * p + W0) x6) 92 p ((W0 + 1 : Nat) : Int)) := FGw.tr g6 (FGw.put (by omega))
    have nnr := A_r w 25 nd
    rw [s10] at nnr
    have aw : ∀ K i, K ≠ 92 → K ≠ 89 → K ≠ 90 → K ≠ 98 → K ≠ 135 → K ≠ 142 → A (wa (wj w6 91 (46000 * p + W0) x6) 92 p ((W0 + 1 : Nat) : Int)) K i = A (unR w p c r (nb r + (Hs r).length + k) W0) K i := fun K i c1 c2 c3 c4 c5 c6 => FR.A g8.1 (by simp; omega)
    refine go205 (nd := nd) (nn := nn) (r := r) hpp hc ?_ (hnd nd s9) ?_ w6' ((aw 95 p (by omega) (by omega) (by omega) (by omega) (by omega) (by omega)).trans fa2.1.2.1) (by omega) ?_
    · rw [aw 103 _ (by omega) (by omega) (by omega) (by omega) (by omega) (by omega)]
      show ((unR w p c r (nb r + (Hs r).length + k) W0).2.2.1 103 _).toInt = _
      rw [unR_a (by omega) (by omega) (by omega) (by omega)]; exact s9
    · rw [aw 25 _ (by omega) (by omega) (by omega) (by omega) (by omega) (by omega)]
      show ((unR w p c r (nb r + (Hs r).length + k) W0).2.2.1 25 _).toInt = _
      rw [unR_a (by omega) (by omega) (by omega) (by omega)]; exact s10
    have f8 : FGm p (unS m p c r (nb r + (Hs r).length + k) W0) m8 := FGm.tr (FGm.tr (FGm.tr (FGm.tr f3 (FGm_xr a4)) (FGm_pa fm6)) FGm.drop) (FGm.push z1)
    have g9 := FGw.tr g8 (FGw.goto (v := ((nn : Nat) : Int)))
    refine kk b3 (U2 + 3) r k a0 nn _ _ (PLs_98 pl8) (RUs_fall ru h28 s1 s6 s3 s5 f8 g9 ?_ ?_ s11) (GGm.tr GGm_un (GGm_fg f8)) (GGw.tr GGw_un (GGw_fg g9 (by omega))) (fun s => SC_fg (SC_un s) f8 g9)
    · rw [FR.F z1 (by simp [pq_n]), wi_ne (pq_n (by omega)), FR.F fm6 (by simp [pq_n]), FR.F a4 (by simp [pq_n]), FR.F h1 (by simp [pq_n]), wi_sm a024.1 a024.2]
    · rw [wa_sm nnr.1 nnr.2]
  · rw [show decide ((0 : Int32) = 0) = true from rfl, br_t, br_t]
    show PP Q (K1 (enS m5 p (mk 1 20) p ee)) _
    have w133 : F (wl (wi w4 140 (-1)) 139 (mk 6 0)) 133 = ((p : Nat) : Int) := by
      rw [F_wl, wi_ne (by omega), FR.F a5.1 (by simp), F_wl, wi_ne (by omega)]
      exact r11
    have g4 : FGw p r (unR w p c r (nb r + (Hs r).length + k) W0) (wl (wi w4 140 (-1)) 139 (mk 6 0)) := FGw.tr (FGw.tr FGw_hand (FGw_xr a5)) FGw_hand
    have e109 : A (wl (wi w4 140 (-1)) 139 (mk 6 0)) 109 p ≠ 3 := by
      rw [FR.A g4.1 (by simp)]
      show ((unR w p c r (nb r + (Hs r).length + k) W0).2.2.1 109 p).toInt ≠ 3
      rw [unR_a (by omega) (by omega) (by omega) (by omega)]
      have : (w.2.2.1 109 p).toInt = 0 := r6
      omega
    have e150 : F (wl (wi w4 140 (-1)) 139 (mk 6 0)) 150 = ((ee' : Nat) : Int) := by
      rw [FR.F g4.1 (by simp)]
      exact hee'.1
    rw [noR_e hpp w133 e109 e150 hee'.2, bnd_so, bnd_so]
    have f5 : FGm p (unS m p c r (nb r + (Hs r).length + k) W0) m5 := FGm.tr f3 (FGm_xr a4)
    exact ke _ _ (GGm.tr GGm_un (GGm_fg f5)) (GGw.tr GGw_un (GGw_fg g4 (by omega))) (fun s => SC_fg (SC_un s) f5 g4) h5
end
