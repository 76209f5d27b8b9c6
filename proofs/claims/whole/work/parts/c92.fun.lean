/-! a FUN is made: its names, how large it will be; both sides -/
set_option maxRecDepth 100000
/-- where a name stands among those of a FRAME -/
def NKs (H O : List Nat) (v i : Int) (k0 : Nat) : Prop := k0 < (H ++ O).length ∧ (∃ s : Nat, v = ((s : Nat) : Int) ∧ (H ++ O)[k0]? = some s ∧ ∀ k e : Nat, k0 < k → (H ++ O)[k]? = some e → e ≠ s) ∧ ((0 ≤ i ∧ ((k0 : Nat) : Int) = ((H.length : Nat) : Int) + i) ∨ (i < 0 ∧ ((k0 : Nat) : Int) = -2 - i))
/-- names of the FRAME that goes: there, here -/
def NMx (m : MS) (p nbj : Nat) (H O : List Nat) : Prop := F m (pq p 24) = ((nbj + (H ++ O).length : Nat) : Int) ∧ nbj + (H ++ O).length ≤ 2500 ∧ NMs m p nbj (H ++ O)
def NWx (w : MS) (p jf nbj : Nat) (H : List Nat) : Prop := p < 24 ∧ F w 133 = ((p : Nat) : Int) ∧ A w 95 p = ((jf + 1 : Nat) : Int) ∧ jf < 60 ∧ A w 99 (60 * p + jf) = ((nbj : Nat) : Int) ∧ A w 101 (60 * p + jf) = ((H.length : Nat) : Int)
section
variable {N p nbj jf k0 : Nat} {m w m2 w2 : MS} {H O : List Nat} {v i : Int}
theorem nk_of (nd : O.Nodup ∧ H.Nodup) (lk : LKP H O v i) : ∃ k0, NKs H O v i k0 := by
  obtain ⟨s, k0, e1, e2, e3, e4⟩ := LKP_g nd lk
  exact ⟨k0, (List.getElem?_eq_some_iff.mp e2).1, ⟨s, e1, e2, e3⟩, e4⟩
theorem NMx_fr {is js : List Nat} (h : NMx m p nbj H O) (f : FR is [] [] js m m2) (hi : pq p 24 ∉ is) : NMx m2 p nbj H O := ⟨by rw [FR.F f hi]; exact h.1, h.2.1, fun i x hx => by rw [FR.A f (by simp)]; exact h.2.2 i x hx⟩
theorem NWx_fr {is ls as js : List Nat} (h : NWx w p jf nbj H) (f : FR is ls as js w w2) (h1 : 133 ∉ is) (h2 : 95 ∉ as) (h3 : 99 ∉ as) (h4 : 101 ∉ as) : NWx w2 p jf nbj H := ⟨h.1, by rw [FR.F f h1]; exact h.2.1, by rw [FR.A f h2]; exact h.2.2.1, h.2.2.2.1, by rw [FR.A f h3]; exact h.2.2.2.2.1, by rw [FR.A f h4]; exact h.2.2.2.2.2⟩
theorem nk_m (h : NMx m p nbj H O) (nk : NKs H O v i k0) (rv : RG v) : PK (fun m2 r => m2 = m ∧ r = m.2.2.2 (pq p 33) (nbj + k0)) (hm_Fr_termOf N m p (I v)) := by
  obtain ⟨h24, hB, nms⟩ := h
  obtain ⟨k0l, ⟨s, e1, e2, e3⟩, -⟩ := nk
  unfold hm_Fr_termOf hb_Fr_termOf_0
  rw [I_F' h24, e1, show I ((nbj + (H ++ O).length : Nat) : Int) - 1 = I ((nbj + (H ++ O).length - 1 : Nat) : Int) by rw [lit1, I_sub]; congr 1; omega]
  refine termOf_s (N := N) (m := m) (p := p) (k := nbj + k0) (l := s) (B := nbj + (H ++ O).length) (fun k h1 h2 => ?_) (nms k0 s e2) (by have := rv.2; omega) (by omega) (by omega) N (nbj + (H ++ O).length - 1) (by omega) (by omega)
  have il : k - nbj < (H ++ O).length := by omega
  have ge : (H ++ O)[k - nbj]? = some (H ++ O)[k - nbj] := List.getElem?_eq_getElem il
  have e5 := nms (k - nbj) _ ge
  rw [show nbj + (k - nbj) = k by omega] at e5
  rw [e5]
  have := e3 (k - nbj) _ (by omega) ge
  omega
theorem nk_r (h : NWx w p jf nbj H) (hB : nbj + (H ++ O).length ≤ 2500) (nk : NKs H O v i k0) (ri : RG i) : PK (fun w2 r => w2 = w ∧ r = w.2.2.2 93 (2500 * p + (nbj + k0))) (fm_M_nameAt N w (I i)) := by
  obtain ⟨hpp, h3, h95, hj, h99, h101⟩ := h
  obtain ⟨k0l, -, e4⟩ := nk
  unfold fm_M_nameAt fb_M_nameAt_0 fb_M_nameAt_43 fm_M_frame0 fb_M_frame0_0
  have ix : (I ((p : Nat) : Int) * 60 + I ((jf + 1 : Nat) : Int) - 1).toNatClampNeg = 60 * p + jf := by
    rw [show (60 : Int32) = I 60 from rfl, lit1, I_mul, I_add, I_sub]
    exact tnI (n := 60 * p + jf) (by omega) (by omega)
  rw [I_F' h3, tnI (n := p) rfl (by omega), I_A' h95]
  refine pk_bnd (pk_ck (fun _ => pk_some ?_))
  refine pk_ck (fun _ => ?_)
  rw [ix, I_A' h99, I_A' h101, I_F' h3, lit0]
  refine p_le ⟨by decide, by decide⟩ ri (fun z => ?_) (fun z => ?_)
  · refine pk_ck (fun _ => pk_ck (fun _ => pk_ck (fun _ => pk_some ⟨rfl, ?_⟩)))
    have : (I ((p : Nat) : Int) * 2500 + I ((nbj : Nat) : Int) + (I ((H.length : Nat) : Int) + I i)).toNatClampNeg = 2500 * p + (nbj + k0) := by
      rw [show (2500 : Int32) = I 2500 from rfl, I_mul, I_add, I_add, I_add]
      exact tnI (n := 2500 * p + (nbj + k0)) (by omega) (by omega)
    rw [this]
  · refine pk_ck (fun _ => pk_ck (fun _ => pk_some ⟨rfl, ?_⟩))
    have : (I ((p : Nat) : Int) * 2500 + I ((nbj : Nat) : Int) + (-2 - I i)).toNatClampNeg = 2500 * p + (nbj + k0) := by
      rw [show (2500 : Int32) = I 2500 from rfl, show (-2 : Int32) = I (-2) from rfl, I_mul, I_add, I_sub, I_add]
      exact tnI (n := 2500 * p + (nbj + k0)) (by omega) (by omega)
    rw [this]
end
/-- behind the sizes: there, here -/
def funA (N M : Nat) (u : MS) (p : Nat) (v1 v2 : Int32) : Option (MS × Unit) := bnd (hm_Ma_room N u p (v2 + 2)) (fun u23 r23 => br (decide (r23 = 0)) (some (u23, ())) (bnd (hm_Te_make N u23 8 v1) (fun u30 r30 => ck (inb (u23.1 (pq p 4)) 512) (lt (upJ u30 (pq p 2) (vp_updL (u30.2.2.2 (pq p 2)) (u23.1 (pq p 4)).toNatClampNeg r30)) (fun w32 => bnd (hm_Te_make N w32 8 v2) (fun u36 r36 => ck (inb ((u23.1 (pq p 4)) + 1) 512) (lt (upJ u36 (pq p 2) (vp_updL (u36.2.2.2 (pq p 2)) ((u23.1 (pq p 4)) + 1).toNatClampNeg r36)) (fun w38 => (hg_Ma_fun N M).2 w38 p (v2) ((u23.1 (pq p 4))) (0)))))))))
def funB (N M : Nat) (u : MS) (v1 v2 v3 v4 : Int32) : Option (MS × Unit) := bnd (fm_M_wants N u (u.1 133) (2 + v4)) (fun u7 r7 => br (decide (r7 = 0)) (bnd (fm_M_noRoom N u7) (fun u10 _ => some (u10, ()))) (ck (inb (u7.1 133) (ln 89)) (lt (u7.2.2.1 89 (u7.1 133).toNatClampNeg) (fun y8 => ck (inb (u7.1 133) (ln 89)) (ck (inb (u7.1 133) (ln 89)) (lt (upA u7 89 (upd (u7.2.2.1 89) (u7.1 133).toNatClampNeg ((u7.2.2.1 89 (u7.1 133).toNatClampNeg) + (2 + v4)))) (fun w9 => br (decide (v2 = 15)) (ck (inb v1 (ln 27)) (fb_M_funRun_177 N (gg_M_funRun N M) w9 (v3) (v4) (y8) (88) ((((w9.1 133) * 500) + y8)) (((-1) - (w9.2.2.1 27 v1.toNatClampNeg).toInt64)))) (fb_M_funRun_177 N (gg_M_funRun N M) w9 (v3) (v4) (y8) (88) ((((w9.1 133) * 500) + y8)) (v3.toInt64)))))))))
section
variable {α β : Type} {b : Int → Nat → Nat → Prop} {Fv Fv' : Int64 → Int64 → Prop} {P P' : Int64 → Prop} {ow kd ow' kd' kn : Nat → Nat} {N p U W l nbj jf a bb uu : Nat} {m0 w0 : MS} {h h' : Nat → Int64} {H O : List Nat} {v1 vn2 : Int32} {Q : MS → α → MS → β → Prop} {K1 : MS → Unit → Option (MS × α)} {K2 : MS → Unit → Option (MS × β)}
theorem fsz_lp (hpp : p < 24) (hh : m0.2.2.2 (pq p 2) = h) (hh' : hp w0 p = h') (g : HPc h U ow kd Fv P) (hU : U ≤ 500) (hF : FVc Fv) (g' : HP h' U ow' kd' Fv' P') (s : ISb b h U h' U) (tp : ∀ i, i < nbj + (H ++ O).length → TPb b U ow kd P U ow' kd' P' (m0.2.2.2 (pq p 33) i) (w0.2.2.2 93 (2500 * p + i))) (nm : NMx m0 p nbj H O) (nw : NWx w0 p jf nbj H) (h5 : F m0 1105 = ((a : Nat) : Int)) (ha : a + 3 + l < 24000) (h55 : A w0 55 uu = ((bb : Nat) : Int)) (hu : uu < 2147483648) (hbb : bb < 1000000) (hl : l ≤ 100) (nk : ∀ k, k < l → NKs H O (A m0 23 (a + 3 + k)) (A w0 57 (bb + k)) (kn k)) (hN : 6000 ≤ N)
    (kk : ∀ m2 w2 M M2 Z Z', FR [] [] [] [45] m0 m2 → FR [] [] [] [141] w0 w2 → ((Z ≤ 500 ∧ Z' = Z) ∨ (500 < Z ∧ 500 < Z')) → Z ≤ 200 + 1000 * l → Z' ≤ 200 + 1000 * l → PP Q (bnd (br (decide (I ((Z : Nat) : Int) ≤ 500)) (funA N M m2 p v1 (I ((l : Nat) : Int))) (bnd (hm_Ma_wrong N m2 p 11) (fun u39 _ => some (u39, ())))) K1) (bnd (br (decide (I ((Z' : Nat) : Int) ≤ 500)) (funB N M2 w2 vn2 (I 14) (I ((uu : Nat) : Int)) (I ((l : Nat) : Int))) (bnd (fr_M_error N w2 11) (fun u11 _ => some (u11, ())))) K2)) : ∀ (d M M2 : Nat) (m w : MS) (i z z' : Nat), i + d = l → FR [] [] [] [45] m0 m → FR [] [] [] [141] w0 w → ((z ≤ 500 ∧ z' = z) ∨ (500 < z ∧ 500 < z')) → z ≤ 200 + 1000 * i → z' ≤ 200 + 1000 * i → PP Q (bnd ((hg_Ma_fun N M).1 m p v1 (I ((l : Nat) : Int)) (I ((z : Nat) : Int)) (I ((i : Nat) : Int))) K1) (bnd ((gg_M_funRun N M2).1 w vn2 (I 14) (I ((uu : Nat) : Int)) (I ((l : Nat) : Int)) (I ((z' : Nat) : Int)) (I ((i : Nat) : Int))) K2) := by
  intro d
  induction d with
  | zero =>
    intro M M2 m w i z z' hi fm fw hz b1 b2
    have : i = l := by omega
    subst this
    cases M with
    | zero => exact pp_nl
    | succ M =>
    cases M2 with
    | zero => exact pp_nr
    | succ M2 =>
    show PP Q (bnd (hb_Ma_fun_21 N (hg_Ma_fun N M) m p v1 (I ((i : Nat) : Int)) (I ((z : Nat) : Int)) (I ((i : Nat) : Int))) K1) (bnd (fb_M_funRun_34 N (gg_M_funRun N M2) w vn2 (I 14) (I ((uu : Nat) : Int)) (I ((i : Nat) : Int)) (I ((z' : Nat) : Int)) (I ((i : Nat) : Int))) K2)
    unfold hb_Ma_fun_21 fb_M_funRun_34
    rw [show decide (I ((i : Nat) : Int) ≤ I ((i : Nat) : Int)) = true from decide_eq_true (Int32.le_refl _), br_t, br_t]
    exact kk m w M M2 z z' fm fw hz b1 b2
  | succ d ih =>
    intro M M2 m w i z z' hi fm fw hz b1 b2
    cases M with
    | zero => exact pp_nl
    | succ M =>
    cases M2 with
    | zero => exact pp_nr
    | succ M2 =>
    show PP Q (bnd (hb_Ma_fun_21 N (hg_Ma_fun N M) m p v1 (I ((l : Nat) : Int)) (I ((z : Nat) : Int)) (I ((i : Nat) : Int))) K1) (bnd (fb_M_funRun_34 N (gg_M_funRun N M2) w vn2 (I 14) (I ((uu : Nat) : Int)) (I ((l : Nat) : Int)) (I ((z' : Nat) : Int)) (I ((i : Nat) : Int))) K2)
    unfold hb_Ma_fun_21 fb_M_funRun_34
    have e5 : F m 1105 = ((a : Nat) : Int) := by rw [FR.F fm (by simp)]; exact h5
    have x33 : F w 133 = ((p : Nat) : Int) := by rw [FR.F fw (by simp)]; exact nw.2.1
    have x55 : A w 55 uu = ((bb : Nat) : Int) := by rw [FR.A fw (by simp)]; exact h55
    have x57 : A w 57 (bb + i) = A w0 57 (bb + i) := FR.A fw (by simp)
    have c23 : A m 23 (a + 3 + i) = A m0 23 (a + 3 + i) := FR.A fm (by simp)
    have il : i < l := by omega
    rw [decI (by omega) (by omega) (by omega) (by omega), show decide (((l : Nat) : Int) ≤ ((i : Nat) : Int)) = false from decide_eq_false (by omega), br_f, br_f, I_F' e5, show I ((a : Nat) : Int) + 3 = I ((a + 3 : Nat) : Int) from addN, addN, Co_e (k := a + 3 + i) rfl (by omega), bnd_so, c23]
    refine rb_ck (fun _ => ?_)
    rw [tnI (n := uu) rfl (by omega), I_A' x55, addN]
    refine rb_ck (fun _ => ?_)
    rw [tnI (n := bb + i) rfl (by omega), I_A (k := 57), x57]
    refine lb_bnd (pk_mo (nk_m (N := N) (NMx_fr nm fm (by simp)) (nk i il) (A_r _ _ _)) (fun m2 r e => ?_))
    obtain ⟨rfl, rfl⟩ := e
    refine rb_bnd (pk_mo (nk_r (N := N) (NWx_fr nw fw (by simp) (by simp) (by simp) (by simp)) nm.2.1 (nk i il) (A_r _ _ _)) (fun w2 r e => ?_))
    obtain ⟨rfl, rfl⟩ := e
    rw [I_F' x33]
    have j2 : m2.2.2.2 (pq p 2) = h := by rw [fm.2.2.2 _ (by simp; exact fun c => pq_n (by omega) c.symm)]; exact hh
    have j33 : m2.2.2.2 (pq p 33) = m0.2.2.2 (pq p 33) := fm.2.2.2 _ (by simp; exact fun c => pq_n (by omega) c.symm)
    have hp2 : hp w2 p = h' := by
      rw [← hh']
      funext q
      show w2.2.2.2 88 _ = _
      rw [fw.2.2.2 88 (by simp)]
      rfl
    have t2 := tp (nbj + kn i) (by have := (nk i il).1; omega)
    rw [← j33, ← fw.2.2.2 93 (by simp)] at t2
    refine l_bb (r_bb ?_)
    refine pp_bb (pp_mo (size_pp (N := N) (v := pq p 2) (fun c => pq_n (by omega) c.symm) j2 hp2 g hU hF g' hU (by omega) s t2 hN) (fun m3 r3 w3 r4 q => ?_))
    obtain ⟨⟨f3, f4⟩, z1, hz1, -, -, rfl, rfl⟩ := q
    rw [addN, addN, show I ((i : Nat) : Int) + 1 = I ((i + 1 : Nat) : Int) from addN]
    refine ih M M2 m3 w3 (i + 1) _ _ (by omega) (FR.tr fm f3) (FR.tr fw f4) ?_ (by omega) ?_
    · by_cases c : z1 ≤ 500
      · rw [if_pos c]
        omega
      · rw [if_neg c]
        omega
    · by_cases c : z1 ≤ 500
      · rw [if_pos c]
        omega
      · rw [if_neg c]
        omega
/-- its cells, there -/
theorem fcl_m {lc : Nat} (h26 : F m0 (pq p 26) = ((W : Nat) : Int)) (hlc : F m0 (pq p 45) = ((lc : Nat) : Int)) (hl2 : W ≤ lc ∧ lc ≤ 1000000) (h4 : F m0 (pq p 4) = ((U : Nat) : Int)) (h5 : F m0 1105 = ((a : Nat) : Int)) (ha : a + 3 + l < 24000) (hU : U + (l + 2) ≤ 500) (nm : NMx m0 p nbj H O) (nk : ∀ k, k < l → NKs H O (A m0 23 (a + 3 + k)) (A w0 57 (bb + k)) (kn k)) : ∀ (d M : Nat) (m : MS) (i : Nat), i + d = l → FR [] [] [] [pq p 2] m0 m → (∀ q, q < U + 2 → m.2.2.2 (pq p 2) q = m0.2.2.2 (pq p 2) q) → (∀ q, q < i → m.2.2.2 (pq p 2) (U + 2 + q) = m0.2.2.2 (pq p 33) (nbj + kn q)) → PK (fun m2 (_ : Unit) => FR [pq p 4, pq p 26, pq p 45, 1105] [] [] [pq p 2, pq p 35] m0 m2 ∧ F m2 (pq p 4) = ((U + (l + 2) : Nat) : Int) ∧ F m2 (pq p 26) = ((W + 1 : Nat) : Int) ∧ F m2 1105 = ((a + 3 + l : Nat) : Int) ∧ (∀ q, q < U + 2 → m2.2.2.2 (pq p 2) q = m0.2.2.2 (pq p 2) q) ∧ (∀ q, q < l → m2.2.2.2 (pq p 2) (U + 2 + q) = m0.2.2.2 (pq p 33) (nbj + kn q)) ∧ ∀ i, i ≤ W → m2.2.2.2 (pq p 35) i = if i = W then mk 3 ((U : Nat) : Int) else m0.2.2.2 (pq p 35) i) ((hg_Ma_fun N M).2 m p (I ((l : Nat) : Int)) (I ((U : Nat) : Int)) (I ((i : Nat) : Int))) := by
  intro d
  induction d with
  | zero =>
    intro M m i hi fr c1 c2
    have : i = l := by omega
    subst this
    cases M with
    | zero => exact pk_none
    | succ M =>
    show PK _ (hb_Ma_fun_144 N (hg_Ma_fun N M) m p (I ((i : Nat) : Int)) (I ((U : Nat) : Int)) (I ((i : Nat) : Int)))
    unfold hb_Ma_fun_144
    have e4 : F m (pq p 4) = ((U : Nat) : Int) := by rw [FR.F fr (by simp)]; exact h4
    rw [show decide (I ((i : Nat) : Int) ≤ I ((i : Nat) : Int)) = true from decide_eq_true (Int32.le_refl _), br_t, I_F' e4, show I ((i : Nat) : Int) + 2 = I ((i + 2 : Nat) : Int) from addN, addN, wi_e, lt_e, show (3 : Int32) = I 3 from rfl, e_make, bnd_so]
    have e26 : F (wi m (pq p 4) ((U + (i + 2) : Nat) : Int)) (pq p 26) = ((W : Nat) : Int) := by rw [wi_ne (pq_inj (by omega)), FR.F fr (by simp)]; exact h26
    have e45 : F (wi m (pq p 4) ((U + (i + 2) : Nat) : Int)) (pq p 45) = ((lc : Nat) : Int) := by rw [wi_ne (pq_inj (by omega)), FR.F fr (by simp)]; exact hlc
    refine pk_bnd (pk_mo (push_m (N := N) (t := mk 3 ((U : Nat) : Int)) e26 e45 hl2.1 hl2.2) (fun m2 _ hh => ?_))
    obtain ⟨z1, z2, z3⟩ := hh
    have e5 : F m2 1105 = ((a : Nat) : Int) := by
      rw [FR.F z1 (by simp [pq_n]), wi_ne (pq_n (by omega)), FR.F fr (by simp)]
      exact h5
    rw [I_F' e5, show I 3 + I ((i : Nat) : Int) = I ((3 + i : Nat) : Int) from addN, addN, show a + (3 + i) = a + 3 + i by omega, wi_e, lt_e]
    have j2 : m2.2.2.2 (pq p 2) = m.2.2.2 (pq p 2) := z1.2.2.2 _ (by simp; exact pq_inj (by omega))
    refine pk_some ⟨?_, ?_, ?_, ?_, fun q hq => ?_, fun q hq => ?_, fun q hq => ?_⟩
    · exact FR.wi (FR.tr (FR.wi (FR.mo fr (by simp) (by simp) (by simp) (by simp)) (by simp)) (FR.mo z1 (by simp) (by simp) (by simp) (by simp))) (by simp)
    · rw [wi_ne (fun c => pq_n (by omega) c.symm), FR.F z1 (by simp; exact ⟨pq_inj (by omega), pq_inj (by omega)⟩), wi_sm (by omega) (by omega)]
    · rw [wi_ne (fun c => pq_n (by omega) c.symm)]
      exact z2
    · rw [wi_sm (by omega) (by omega)]
    · show m2.2.2.2 (pq p 2) q = _
      rw [j2]
      exact c1 q hq
    · show m2.2.2.2 (pq p 2) (U + 2 + q) = _
      rw [j2]
      exact c2 q hq
    · show m2.2.2.2 (pq p 35) q = _
      rw [z3 q hq]
      by_cases c : q = W
      · rw [if_pos c, if_pos c]
      · rw [if_neg c, if_neg c]
        show m.2.2.2 (pq p 35) q = _
        rw [fr.2.2.2 _ (by simp; exact pq_inj (by omega))]
  | succ d ih =>
    intro M m i hi fr c1 c2
    cases M with
    | zero => exact pk_none
    | succ M =>
    show PK _ (hb_Ma_fun_144 N (hg_Ma_fun N M) m p (I ((l : Nat) : Int)) (I ((U : Nat) : Int)) (I ((i : Nat) : Int)))
    unfold hb_Ma_fun_144
    have e5 : F m 1105 = ((a : Nat) : Int) := by rw [FR.F fr (by simp)]; exact h5
    have c23 : A m 23 (a + 3 + i) = A m0 23 (a + 3 + i) := FR.A fr (by simp)
    have j33 : m.2.2.2 (pq p 33) = m0.2.2.2 (pq p 33) := fr.2.2.2 _ (by simp; exact pq_inj (by omega))
    rw [decI (by omega) (by omega) (by omega) (by omega), show decide (((l : Nat) : Int) ≤ ((i : Nat) : Int)) = false from decide_eq_false (by omega), br_f, I_F' e5, show I ((a : Nat) : Int) + 3 = I ((a + 3 : Nat) : Int) from addN, addN, Co_e (k := a + 3 + i) rfl (by omega), bnd_so, c23]
    refine pk_bnd (pk_mo (nk_m (N := N) (NMx_fr nm fr (by simp)) (nk i (by omega)) (A_r _ _ _)) (fun m2 r e => ?_))
    obtain ⟨rfl, rfl⟩ := e
    refine pk_ck (fun _ => pk_lt ?_)
    rw [show I ((U : Nat) : Int) + 2 = I ((U + 2 : Nat) : Int) from addN, addN, tnI (n := U + 2 + i) rfl (by omega), wj_e, show I ((i : Nat) : Int) + 1 = I ((i + 1 : Nat) : Int) from addN, j33]
    refine ih M _ (i + 1) (by omega) (FR.wj fr (by simp)) (fun q hq => ?_) (fun q hq => ?_)
    · rw [wj_row, if_neg (by omega)]
      exact c1 q hq
    · rw [wj_row]
      by_cases c : q = i
      · rw [if_pos (by omega), c]
      · rw [if_neg (by omega)]
        exact c2 q (by omega)
/-- and here -/
theorem fcl_r (hpp : p < 24) (h92 : A w0 92 p = ((W : Nat) : Int)) (hW : W ≤ 46000) (hU : U + (l + 2) ≤ 500) (nw : NWx w0 p jf nbj H) (hB : nbj + (H ++ O).length ≤ 2500) (h55 : A w0 55 uu = ((bb : Nat) : Int)) (hu : uu < 2147483648) (hbb : bb + l < 1000000) (nk : ∀ k, k < l → NKs H O (A m0 23 (a + 3 + k)) (A w0 57 (bb + k)) (kn k)) : ∀ (d M : Nat) (w : MS) (i : Nat), i + d = l → FR [] [] [] [88] w0 w → (∀ q, ¬ (500 * p + U + 2 ≤ q ∧ q < 500 * p + U + 2 + l) → w.2.2.2 88 q = w0.2.2.2 88 q) → (∀ q, q < i → w.2.2.2 88 (500 * p + U + 2 + q) = w0.2.2.2 93 (2500 * p + (nbj + kn q))) → PK (fun w2 (_ : Unit) => ∃ w1 : MS, FR [] [] [] [88] w0 w1 ∧ (∀ q, ¬ (500 * p + U + 2 ≤ q ∧ q < 500 * p + U + 2 + l) → w1.2.2.2 88 q = w0.2.2.2 88 q) ∧ (∀ q, q < l → w1.2.2.2 88 (500 * p + U + 2 + q) = w0.2.2.2 93 (2500 * p + (nbj + kn q))) ∧ w2 = wa (wj w1 91 (46000 * p + W) (mk 3 ((U : Nat) : Int))) 92 p ((W + 1 : Nat) : Int)) ((gg_M_funRun N M).2 w (I ((uu : Nat) : Int)) (I ((l : Nat) : Int)) (I ((U : Nat) : Int)) (I ((i : Nat) : Int))) := by
  intro d
  induction d with
  | zero =>
    intro M w i hi fr c1 c2
    have : i = l := by omega
    subst this
    cases M with
    | zero => exact pk_none
    | succ M =>
    show PK _ (fb_M_funRun_202 N (gg_M_funRun N M) w (I ((uu : Nat) : Int)) (I ((i : Nat) : Int)) (I ((U : Nat) : Int)) (I ((i : Nat) : Int)))
    unfold fb_M_funRun_202
    have x33 : F w 133 = ((p : Nat) : Int) := by rw [FR.F fr (by simp)]; exact nw.2.1
    have x92 : A w 92 p = ((W : Nat) : Int) := by rw [FR.A fr (by simp)]; exact h92
    rw [show decide (I ((i : Nat) : Int) ≤ I ((i : Nat) : Int)) = true from decide_eq_true (Int32.le_refl _), br_t, show (3 : Int32) = I 3 from rfl, term_e, bnd_so]
    refine pk_bnd (pk_mo (put_r (N := N) (x := mk 3 ((U : Nat) : Int)) hpp x33 x92 hW) (fun w2 _ e => ?_))
    subst e
    exact pk_some ⟨w, fr, c1, c2, rfl⟩
  | succ d ih =>
    intro M w i hi fr c1 c2
    cases M with
    | zero => exact pk_none
    | succ M =>
    show PK _ (fb_M_funRun_202 N (gg_M_funRun N M) w (I ((uu : Nat) : Int)) (I ((l : Nat) : Int)) (I ((U : Nat) : Int)) (I ((i : Nat) : Int)))
    unfold fb_M_funRun_202
    have x33 : F w 133 = ((p : Nat) : Int) := by rw [FR.F fr (by simp)]; exact nw.2.1
    have x55 : A w 55 uu = ((bb : Nat) : Int) := by rw [FR.A fr (by simp)]; exact h55
    have x57 : A w 57 (bb + i) = A w0 57 (bb + i) := FR.A fr (by simp)
    rw [decI (by omega) (by omega) (by omega) (by omega), show decide (((l : Nat) : Int) ≤ ((i : Nat) : Int)) = false from decide_eq_false (by omega), br_f, I_F' x33, tnI (n := uu) rfl (by omega), I_A' x55, addN, tnI (n := bb + i) rfl (by omega), I_A (k := 57), x57]
    refine pk_ck (fun _ => pk_ck (fun _ => ?_))
    refine pk_bnd (pk_mo (nk_r (N := N) (NWx_fr nw fr (by simp) (by simp) (by simp) (by simp)) hB (nk i (by omega)) (A_r _ _ _)) (fun w2 r e => ?_))
    obtain ⟨rfl, rfl⟩ := e
    have sp : I ((p : Nat) : Int) * 500 + I ((U : Nat) : Int) + 2 + I ((i : Nat) : Int) = I ((500 * p + U + 2 + i : Nat) : Int) := by
      rw [show (500 : Int32) = I 500 from rfl, show (2 : Int32) = I 2 from rfl, I_mul, I_add, I_add, I_add]
      congr 1
      omega
    refine pk_ck (fun _ => pk_lt ?_)
    rw [sp, tnI (n := 500 * p + U + 2 + i) rfl (by omega), wj_e, show I ((i : Nat) : Int) + 1 = I ((i + 1 : Nat) : Int) from addN, fr.2.2.2 93 (by simp)]
    refine ih M _ (i + 1) (by omega) (FR.wj fr (by simp)) (fun q hq => ?_) (fun q hq => ?_)
    · rw [wj_row, if_neg (by omega)]
      exact c1 q hq
    · rw [wj_row]
      by_cases c : q = i
      · rw [if_pos (by omega), c]
      · rw [if_neg (by omega)]
        exact c2 q (by omega)
/-- a new FUN, both heaps -/
theorem fun_iso {h2 h2' : Nat → Int64} {tt xx : Nat → Int64} (s : ISb b h U h' U) (hU : U + (l + 2) ≤ 1000) (pr : PLR (h2 U) (h2' U)) (hd : vn (h2 (U + 1)) = l) (hd' : vn (h2' (U + 1)) = l) (cs : ∀ q, q < l → h2 (U + 2 + q) = tt q) (cs' : ∀ q, q < l → h2' (U + 2 + q) = xx q) (rt : ∀ q, q < l → RTb b (tt q) (xx q)) (hh : ∀ i, i < U → h2 i = h i) (hh' : ∀ i, i < U → h2' i = h' i) : ISb (fun k a c => b k a c ∨ (k = so (mk 3 ((U : Nat) : Int)) ∧ a = U ∧ c = U)) h2 (U + (l + 2)) h2' (U + (l + 2)) ∧ RTb (fun k a c => b k a c ∨ (k = so (mk 3 ((U : Nat) : Int)) ∧ a = U ∧ c = U)) (mk 3 ((U : Nat) : Int)) (mk 3 ((U : Nat) : Int)) := by
  have s3 : so (mk 3 ((U : Nat) : Int)) = 3 := so_mk (by omega) (by omega)
  have v3 : va (mk 3 ((U : Nat) : Int)) = ((U : Nat) : Int) := va_mk (by omega) (by omega)
  have n3 : vn (mk 3 ((U : Nat) : Int)) = U := by unfold vn; rw [v3]; omega
  have pr3 : prt (mk 3 ((U : Nat) : Int)) = 2 := by unfold prt; rw [s3]; rfl
  refine ISb_new (m := l + 2) s (isH_mk (by omega)) rfl ⟨by rw [v3]; omega, by rw [v3]; omega⟩ n3 n3 ?_ ?_ ⟨by omega, by omega⟩ hh hh' (fun j h1 h3 => ?_) (fun _ => pr)
  · unfold blk; rw [s3, n3]; simp; rw [hd]; omega
  · unfold blk; rw [s3, n3]; simp; rw [hd']; omega
  · rw [pr3] at h1
    rw [show U + j = U + 2 + (j - 2) by omega, cs (j - 2) (by omega), cs' (j - 2) (by omega)]
    exact rt (j - 2) (by omega)
end
