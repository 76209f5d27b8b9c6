/-! a list is made: how large it will be; both sides -/
set_option maxRecDepth 100000
/-- behind the sizes, here -/
def lstB (N M : Nat) (u : MS) (v1 v2 : Int32) : Option (MS × Unit) := bnd (fm_M_wants N u (u.1 133) (2 * v1)) (fun u5 r5 => br (decide (r5 = 0)) (bnd (fm_M_noRoom N u5) (fun u8 _ => some (u8, ()))) (br (decide (v2 = 1)) (bnd (fm_M_take N u5) (fun u7 r7 => fb_M_listRun_89 N (gg_M_listRun N M) u7 (v1) (r7))) (bnd (fm_M_term N u5 6 0) (fun u6 r6 => fb_M_listRun_89 N (gg_M_listRun N M) u6 (v1) (r6)))))
section
variable {α β : Type} {b : Int → Nat → Nat → Prop} {Fv Fv' : Int64 → Int64 → Prop} {P P' : Int64 → Prop} {ow kd ow' kd' : Nat → Nat} {N p U W l k tl dl : Nat} {m0 w0 : MS} {h h' : Nat → Int64} {Q : MS → α → MS → β → Prop} {K1 : MS → Int32 → Option (MS × α)} {K2 : MS → Unit → Option (MS × β)}
/-- sizes; dl = 1: there NIL lies uppermost, here nothing -/
theorem lsz_lp (hpp : p < 24) (htl : tl + dl = 1) (hh : m0.2.2.2 (pq p 2) = h) (hh' : hp w0 p = h') (g : HPc h U ow kd Fv P) (hU : U ≤ 500) (hF : FVc Fv) (g' : HP h' U ow' kd' Fv' P') (s : ISb b h U h' U) (tp : ∀ i, i < W → TPb b U ow kd P U ow' kd' P' (m0.2.2.2 (pq p 35) i) (w0.2.2.2 91 (46000 * p + i))) (h26 : F m0 (pq p 26) = ((W + dl : Nat) : Int)) (hl : F m0 (pq p 45) = ((l : Nat) : Int)) (hl2 : W + dl ≤ l ∧ l ≤ 1000000) (h133 : F w0 133 = ((p : Nat) : Int)) (h92 : A w0 92 p = ((W : Nat) : Int)) (hW : W ≤ 46000) (hk : k + tl ≤ W) (hk2 : k ≤ 100) (hN : 6000 ≤ N)
    (kk : ∀ m2 w2 M2 Z Z', FR [] [] [] [45] m0 m2 → FR [] [] [] [141] w0 w2 → ((Z ≤ 500 ∧ Z' = Z) ∨ (500 < Z ∧ 500 < Z')) → Z ≤ 200 + 1000 * (k + 1) → Z' ≤ 200 + 1000 * (k + 1) → PP Q (K1 m2 (I ((Z : Nat) : Int))) (bnd (br (decide (I ((Z' : Nat) : Int) ≤ 500)) (lstB N M2 w2 (I ((k : Nat) : Int)) (I ((tl : Nat) : Int))) (bnd (fr_M_error N w2 11) (fun u11 _ => some (u11, ())))) K2)) : ∀ (d M M2 : Nat) (m w : MS) (i z z' : Nat), i + d = k + tl → FR [] [] [] [45] m0 m → FR [] [] [] [141] w0 w → ((z ≤ 500 ∧ z' = z) ∨ (500 < z ∧ 500 < z')) → z ≤ 200 + 1000 * i → z' ≤ 200 + 1000 * i → PP Q (bnd (hg_Ma_sizes N M m p (I ((k + 1 : Nat) : Int)) (I ((z : Nat) : Int)) (I ((i + dl : Nat) : Int))) K1) (bnd ((gg_M_listRun N M2).1 w (I ((k : Nat) : Int)) (I ((tl : Nat) : Int)) (I ((z' : Nat) : Int)) (I ((i : Nat) : Int))) K2) := by
  intro d
  induction d with
  | zero =>
    intro M M2 m w i z z' hi fm fw hz b1 b2
    have : i = k + tl := by omega
    subst this
    cases M with
    | zero => exact pp_nl
    | succ M =>
    cases M2 with
    | zero => exact pp_nr
    | succ M2 =>
    show PP Q (bnd (hb_Ma_sizes_5 N (hg_Ma_sizes N M) m p (I ((k + 1 : Nat) : Int)) (I ((z : Nat) : Int)) (I ((k + tl + dl : Nat) : Int))) K1) (bnd (fb_M_listRun_7 N (gg_M_listRun N M2) w (I ((k : Nat) : Int)) (I ((tl : Nat) : Int)) (I ((z' : Nat) : Int)) (I ((k + tl : Nat) : Int))) K2)
    unfold hb_Ma_sizes_5 fb_M_listRun_7
    rw [addN, decI (by omega) (by omega) (by omega) (by omega), decide_eq_true (by omega), br_t, bnd_so, decI (by omega) (by omega) (by omega) (by omega), decide_eq_true (by omega), br_t]
    exact kk m w M2 z z' fm fw hz (by omega) (by omega)
  | succ d ih =>
    intro M M2 m w i z z' hi fm fw hz b1 b2
    cases M with
    | zero => exact pp_nl
    | succ M =>
    cases M2 with
    | zero => exact pp_nr
    | succ M2 =>
    show PP Q (bnd (hb_Ma_sizes_5 N (hg_Ma_sizes N M) m p (I ((k + 1 : Nat) : Int)) (I ((z : Nat) : Int)) (I ((i + dl : Nat) : Int))) K1) (bnd (fb_M_listRun_7 N (gg_M_listRun N M2) w (I ((k : Nat) : Int)) (I ((tl : Nat) : Int)) (I ((z' : Nat) : Int)) (I ((i : Nat) : Int))) K2)
    unfold hb_Ma_sizes_5 fb_M_listRun_7
    have e26 : F m (pq p 26) = ((W + dl : Nat) : Int) := by rw [FR.F fm (by simp)]; exact h26
    have e45 : F m (pq p 45) = ((l : Nat) : Int) := by rw [FR.F fm (by simp)]; exact hl
    have x33 : F w 133 = ((p : Nat) : Int) := by rw [FR.F fw (by simp)]; exact h133
    have x92 : A w 92 p = ((W : Nat) : Int) := by rw [FR.A fw (by simp)]; exact h92
    rw [addN, decI (by omega) (by omega) (by omega) (by omega), decide_eq_false (by omega), br_f, decI (by omega) (by omega) (by omega) (by omega), decide_eq_false (by omega), br_f, below_e (k := i + dl) (W := W + dl) (l := l) e26 e45 hl2.1 hl2.2 rfl (by omega), bnd_so, show W + dl - 1 - (i + dl) = W - 1 - i by omega]
    refine rb_bnd (pk_mo (top_r (N := N) (k := i) hpp x33 x92 hW (by omega)) (fun w2 r e => ?_))
    obtain ⟨rfl, rfl⟩ := e
    rw [I_F' x33]
    have j2 : m.2.2.2 (pq p 2) = h := by rw [fm.2.2.2 _ (by simp; exact fun c => pq_n (by omega) c.symm)]; exact hh
    have j35 : m.2.2.2 (pq p 35) = m0.2.2.2 (pq p 35) := fm.2.2.2 _ (by simp; exact fun c => pq_n (by omega) c.symm)
    have hp2 : hp w2 p = h' := by
      rw [← hh']
      funext q
      show w2.2.2.2 88 _ = _
      rw [fw.2.2.2 88 (by simp)]
      rfl
    have t2 := tp (W - 1 - i) (by omega)
    rw [← j35, ← fw.2.2.2 91 (by simp)] at t2
    refine l_bb (r_bb ?_)
    refine pp_bb (pp_mo (size_pp (N := N) (v := pq p 2) (fun c => pq_n (by omega) c.symm) j2 hp2 g hU hF g' hU (by omega) s t2 hN) (fun m3 r3 w3 r4 q => ?_))
    obtain ⟨⟨f3, f4⟩, z1, hz1, -, -, rfl, rfl⟩ := q
    rw [addN, addN, show I ((i + dl : Nat) : Int) + 1 = I ((i + 1 + dl : Nat) : Int) by rw [show i + 1 + dl = i + dl + 1 by omega]; exact addN, show I ((i : Nat) : Int) + 1 = I ((i + 1 : Nat) : Int) from addN]
    refine ih M M2 m3 w3 (i + 1) _ _ (by omega) (FR.tr fm f3) (FR.tr fw f4) ?_ (by omega) ?_
    · by_cases c : z1 ≤ 500
      · rw [if_pos c]
        omega
      · rw [if_neg c]
        omega
    · by_cases c : z1 ≤ 500
      · rw [if_pos c]
        omega
      · rw [if_neg c]
        omega
end
section
variable {α β : Type} {b : Int → Nat → Nat → Prop} {Fv Fv' : Int64 → Int64 → Prop} {P P' : Int64 → Prop} {ow kd ow' kd' : Nat → Nat} {N p U B W Y l k tl dl j a n ee ee' : Nat} {m w m1 w1 : MS} {te xe : Int64} {Q : MS → α → MS → β → Prop} {K1 : MS → Option (MS × α)} {K2 : MS → Unit → Option (MS × β)}
/-- room is there: the pairs are made. W: what waits below the ELEMENTS -/
theorem list_mk {M2 : Nat} {b2 : Int → Nat → Nat → Prop} (hpp : p < 24) (hk : 0 < k) (hU : U + 2 * k ≤ 500) (hW : W + k + 1 ≤ 46000) (h26 : F m (pq p 26) = ((W + k + 1 : Nat) : Int)) (hl : F m (pq p 45) = ((l : Nat) : Int)) (hl2 : W + k + 1 ≤ l ∧ l ≤ 1000000) (h5 : F m 1105 = ((a : Nat) : Int)) (ha : a < 24000) (h4 : F m (pq p 4) = ((U : Nat) : Int)) (pl : PLs b2 p (wi m (pq p 26) ((W + k : Nat) : Int)) w U B (W + k) Y) (h133 : F w 133 = ((p : Nat) : Int)) (rt : RTb b2 (m.2.2.2 (pq p 35) (W + k)) xe)
    (kS : ∀ b3 U3 m3 w3, PLs b3 p m3 w3 U3 B (W + 1) Y → FR [pq p 4, pq p 26, pq p 45, 1105] [] [] [pq p 2, pq p 35] m m3 → F m3 1105 = ((a + 2 : Nat) : Int) → FGw p j w w3 → w3.2.2.1 98 = w.2.2.1 98 → PP Q (K1 m3) (K2 w3 ())) : PP Q (bnd (hg_Ma_list N N m p (I ((k : Nat) : Int)) (I ((U : Nat) : Int)) (I ((0 : Nat) : Int))) (fun u _ => K1 u)) (bnd ((gg_M_listRun N M2).2 w (I ((k : Nat) : Int)) xe (I ((0 : Nat) : Int))) K2) := by
  have j35 : (wi m (pq p 26) ((W + k : Nat) : Int)).2.2.2 = m.2.2.2 := rfl
  refine l_bnd (pk_mo (lst_m (N := N) (U := U) (W := W) (k := k) (lc := l) (a := a) (m0 := m) h26 hl hl2 h5 ha hk hU k N m 0 (by omega) FR.rf ⟨fun _ _ => rfl, fun r hr => by omega⟩) (fun m7 _ hh => ?_))
  obtain ⟨t1, t2, t3, t4, t5, t6, t7⟩ := hh
  refine r_bnd (pk_mo (lst_r (N := N) (U := U) (W := W) (k := k) (w0 := w) (te := xe) hpp h133 (by omega) hU k M2 w 0 xe (by omega) FR.rf (by rw [pl.1.1.2.1]; congr 1) (by rw [pl.2.2.1.2.1]; congr 1) (fun _ _ => ⟨rfl, rfl⟩) (fun _ _ => rfl) ⟨fun _ _ => rfl, fun r hr => by omega⟩ (by rw [if_pos rfl])) (fun w7 _ hh => ?_))
  obtain ⟨w5, s1, s89, so1, so2, ls, rfl⟩ := hh
  generalize hw7 : wa (wj w5 91 (46000 * p + W) (if k = 0 then xe else mk 7 ((U + 2 * (k - 1) : Nat) : Int))) 92 p ((W + 1 : Nat) : Int) = w7
  have kz : (if k = 0 then xe else mk 7 ((U + 2 * (k - 1) : Nat) : Int)) = mk 7 ((U + 2 * (k - 1) : Nat) : Int) := if_neg (by omega)
  rw [kz] at hw7
  have f7 : FR [] [] [89, 92] [88, 91] w w7 := by
    rw [← hw7]
    exact FR.wa (FR.wj (FR.mo s1 (by simp) (by simp) (by simp) (by simp)) (by simp)) (by simp)
  have hp7 : hp w7 p = hp w5 p := by
    funext i
    rw [← hw7]
    show (wj w5 91 (46000 * p + W) (mk 7 ((U + 2 * (k - 1) : Nat) : Int))).2.2.2 88 (500 * p + i) = _
    rw [wj_22 (by omega)]
    rfl
  have w791 : ∀ i, w7.2.2.2 91 i = if i = 46000 * p + W then mk 7 ((U + 2 * (k - 1) : Nat) : Int) else w.2.2.2 91 i := fun i => by
    rw [← hw7]
    show (wj w5 91 (46000 * p + W) _).2.2.2 91 i = _
    rw [wj_row]
    by_cases c : i = 46000 * p + W
    · rw [if_pos c, if_pos c]
    · rw [if_neg c, if_neg c, s1.2.2.2 91 (by simp)]
  have e89 : A w7 89 p = ((U + 2 * k : Nat) : Int) := by
    rw [← hw7, wa_rne (by omega)]
    exact s89
  have e92 : A w7 92 p = ((W + 1 : Nat) : Int) := by rw [← hw7, wa_sm (by omega) (by omega)]
  have fw7 : FGw p j w w7 := by
    refine FGw_mk f7 (fun r hr => ?_) (fun r hr => ?_) (fun i hi => ?_) (fun i hi => ?_)
    · rw [← hw7, wa_rne (by omega)]
      exact (so1 r hr).1
    · rw [← hw7, wa_ro (by omega) (by omega), if_neg hr]
      exact (so1 r hr).2
    · rw [← hw7]
      show (wj w5 91 (46000 * p + W) (mk 7 ((U + 2 * (k - 1) : Nat) : Int))).2.2.2 88 i = _
      rw [wj_22 (by omega)]
      exact so2 i hi
    · rw [w791, if_neg (by omega)]
  obtain ⟨is7, rt7⟩ := pairs_iso (l := k) (h2 := m7.2.2.2 (pq p 2)) (h2' := hp w7 p) (tt := fun i => m.2.2.2 (pq p 35) (W + i)) (xx := fun i => w.2.2.2 91 (46000 * p + (W + i))) (te := m.2.2.2 (pq p 35) (W + k)) (xe := xe) pl.1.2.1 hU hk t5 t6 (by rw [hp7]; exact ls) (fun i hi => pl.2.2.1.2.2 (W + i) (by omega)) rt
  refine kS (fun k_1 a c => b2 k_1 a c ∨ bnL U U k k_1 a c) (U + 2 * k) m7 w7 ?_ t1 t4 fw7 (f7.2.2.1 98 (by simp))
  have t1' : FR [pq p 4, pq p 26, pq p 45, 1105] [] [] [pq p 2, pq p 35] (wi m (pq p 26) ((W + k : Nat) : Int)) m7 := ⟨fun i hi => by
    rw [t1.1 i hi]
    exact (wi_1 (fun c => hi (by rw [c]; simp))).symm, t1.2.1, t1.2.2.1, t1.2.2.2⟩
  exact PLs_mk pl (fun _ _ _ hh => Or.inl hh) t1' t2 t3 (by omega) t7 f7 e89 hU e92 (fun i hi => by
    rw [w791]
    by_cases c : i = W
    · rw [if_pos c, if_pos (by omega)]
    · rw [if_neg c, if_neg (by omega)]) is7 rt7
end
