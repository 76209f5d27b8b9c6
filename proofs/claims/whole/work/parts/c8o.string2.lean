/-! a STRING is made, both sides -/
set_option maxRecDepth 100000
section
variable {b b3 : Int → Nat → Nat → Prop} {p U U3 B W W3 Y j l : Nat} {m w m7 w7 w1 : MS} {t x : Int64}
/-- new cells and a new uppermost term -/
theorem PLs_mk (pl : PLs b p m w U B W Y) (up : ∀ k a c, b k a c → b3 k a c) (t1 : FR [pq p 4, pq p 26, pq p 45, 1105] [] [] [pq p 2, pq p 35] m m7) (e4 : F m7 (pq p 4) = ((U3 : Nat) : Int)) (e26 : F m7 (pq p 26) = ((W3 + 1 : Nat) : Int)) (hW3 : W3 ≤ W) (top : ∀ i, i ≤ W3 → m7.2.2.2 (pq p 35) i = if i = W3 then t else m.2.2.2 (pq p 35) i) (f1 : FR [] [] [89, 92] [88, 91] w w7) (e89 : A w7 89 p = ((U3 : Nat) : Int)) (hU3 : U3 ≤ 500) (e92 : A w7 92 p = ((W3 + 1 : Nat) : Int)) (top' : ∀ i, i ≤ W3 → w7.2.2.2 91 (46000 * p + i) = if i = W3 then x else w.2.2.2 91 (46000 * p + i)) (is : ISb b3 (m7.2.2.2 (pq p 2)) U3 (hp w7 p) U3) (rt : RTb b3 t x) : PLs b3 p m7 w7 U3 B (W3 + 1) Y := by
  obtain ⟨⟨⟨q1, q2, q3⟩, q4, q5⟩, ⟨q6, q7, q8⟩, ⟨q9, q10, q11⟩, q12, q13, q14⟩ := pl
  have m7q : ∀ d, d ≠ 4 → d ≠ 26 → d ≠ 45 → m7.1 (pq p d) = m.1 (pq p d) := fun d h1 h2 h3 => t1.1 _ (by
    simp only [List.mem_cons, List.not_mem_nil, or_false]
    intro c
    rcases c with c | c | c | c
    · exact pq_inj h1 c
    · exact pq_inj h2 c
    · exact pq_inj h3 c
    · exact pq_n (by omega) c.symm)
  have m7j : ∀ d, d ≠ 2 → d ≠ 35 → m7.2.2.2 (pq p d) = m.2.2.2 (pq p d) := fun d h1 h2 => t1.2.2.2 _ (by simp; exact ⟨pq_inj h1, pq_inj h2⟩)
  refine ⟨⟨⟨e4, e89, hU3⟩, is, ?_⟩, ⟨?_, ?_, fun i hi => ?_⟩, ⟨e26, e92, fun i hi => ?_⟩, ?_, ?_, fun i hi => ?_⟩
  · rw [m7q 5 (by omega) (by omega) (by omega), f1.2.2.1 90 (by simp)]; exact q5
  · exact (congrArg Int32.toInt (m7q 24 (by omega) (by omega) (by omega))).trans q6
  · rw [FR.A f1 (by simp)]; exact q7
  · rw [m7j 33 (by omega) (by omega), f1.2.2.2 93 (by simp)]; exact RTb_mo up (q8 i hi)
  · rw [top i (by omega), top' i (by omega)]
    by_cases c : i = W3
    · rw [if_pos c, if_pos c]; exact rt
    · rw [if_neg c, if_neg c]; exact RTb_mo up (q11 i (by omega))
  · exact (congrArg Int32.toInt (m7q 7 (by omega) (by omega) (by omega))).trans q12
  · rw [FR.A f1 (by simp)]; exact q13
  · rw [m7j 6 (by omega) (by omega), f1.2.2.2 107 (by simp)]; exact RTb_mo up (q14 i hi)
/-- frames of it -/
theorem FGw_mk (f1 : FR [] [] [89, 92] [88, 91] w w7) (h1 : ∀ r, r ≠ p → A w7 89 r = A w 89 r) (h2 : ∀ r, r ≠ p → A w7 92 r = A w 92 r) (h3 : ∀ i, ¬ (500 * p ≤ i ∧ i < 500 * p + 500) → w7.2.2.2 88 i = w.2.2.2 88 i) (h4 : ∀ i, ¬ (46000 * p ≤ i ∧ i < 46000 * p + 46000) → w7.2.2.2 91 i = w.2.2.2 91 i) : FGw p j w w7 := ⟨FR.mo f1 (by simp) (by simp) (by simp) (by simp), fun k hk => ⟨h1 k hk, by rw [f1.2.2.1 90 (by simp)], h2 k hk⟩, fun k _ => FR.A f1 (by simp), h3, h4, fun i _ => by rw [f1.2.2.2 93 (by simp)], fun i _ => by rw [f1.2.2.2 107 (by simp)]⟩
/-- a list of pairs there and here -/
theorem pairs_iso {h h' h2 h2' : Nat → Int64} {tt xx : Nat → Int64} {te xe : Int64} (s : ISb b h U h' U) (hm : U + 2 * l ≤ 500) (hl : 0 < l) (c0 : ∀ i, i < U → h2 i = h i) (cs : ∀ r, r < l → h2 (U + 2 * r) = tt r ∧ h2 (U + 2 * r + 1) = (if r + 1 = l then te else mk 7 ((U + 2 * (r + 1) : Nat) : Int))) (ds : lsC h2' h' U l l xx xe) (r1 : ∀ i, i < l → RTb b (tt i) (xx i)) (r2 : RTb b te xe) : ISb (fun k a c => b k a c ∨ bnL U U l k a c) h2 (U + 2 * l) h2' (U + 2 * l) ∧ RTb (fun k a c => b k a c ∨ bnL U U l k a c) (mk 7 ((U : Nat) : Int)) (mk 7 ((U + 2 * (l - 1) : Nat) : Int)) := by
  refine list_iso (tt := tt) (xx := xx) (te := te) (xe := xe) s hl ⟨by omega, by omega⟩ c0 ds.1 (fun i hi => (cs i hi).1) (fun i hi => ?_) ?_ (fun i hi => ?_) (fun i hi => ?_) ?_ r1 r2
  · rw [(cs i (by omega)).2, if_neg (by omega)]
  · have := (cs (l - 1) (by omega)).2
    rw [if_pos (by omega)] at this
    exact this
  · have := (ds.2 (l - 1 - i) (by omega)).1
    rw [show l - 1 - (l - 1 - i) = i by omega] at this
    exact this
  · have := (ds.2 (l - 1 - i) (by omega)).2
    rw [if_neg (by omega), show l - 1 - i - 1 = l - 1 - (i + 1) by omega] at this
    exact this
  · have := (ds.2 0 hl).2
    rw [if_pos rfl, Nat.mul_zero, Nat.add_zero] at this
    exact this
end
section
variable {α β : Type} {b : Int → Nat → Nat → Prop} {Fv Fv' : Int64 → Int64 → Prop} {P P' : Int64 → Prop} {ow kd ow' kd' : Nat → Nat} {N p U B W Y l j a n s0 bb ee ee' : Nat} {m w : MS} {nb : Nat → Nat} {Hs Os : Nat → List Nat} {y : Option (Nat × Nat × Nat)} {v : Int} {Q : MS → α → MS → β → Prop} {K1 : MS → Option (MS × α)} {K2 : MS → Option (MS × β)}
theorem one_2 : fm_M_one N w (I v) (I 2) = bnd (fm_M_goTo N w (I v + 1)) (fun u7 _ => ck (inb (I v) (ln 25)) (bnd (fm_M_stringRun N u7 (u7.2.2.1 25 (I v).toNatClampNeg)) (fun u24 _ => some (u24, ())))) := rfl
/-- a STRING is made -/
theorem op_string (hpp : p < 24) (pl : PLs b p m w U B W Y) (ru : RUs m w p j nb Hs Os y a n) (hW : W < 46000) (pt : PTQ m p U ow kd Fv P B W Y) (cx : CTX Fv P m) (xc : CX w p (hp w p) U ow' kd' Fv' P' W B Y) (h140 : F w 140 = -1) (h25 : A w 25 n = ((s0 : Nat) : Int)) (hs0 : s0 < 100000) (h19 : A w 19 s0 = ((bb : Nat) : Int)) (h19' : A w 19 (s0 + 1) = ((bb + l : Nat) : Int)) (hbl : bb + l < 1000000) (hl1 : l ≤ 1000) (c1 : A m 23 (a + 1) = ((l : Nat) : Int)) (cs : ∀ k, k < l → A m 23 (a + 2 + k) = A w 18 (bb + k)) (hee : F m 955 = ((ee : Nat) : Int) ∧ ee < 24) (hee' : F w 150 = ((ee' : Nat) : Int) ∧ ee' < 4000) (hN : 2200000 ≤ N) (cr : ∃ f, CRs (A m 23) (ROs w) (w.2.2.2 34) f y (a + 2 + l) (n + 1) (Hs j) (Os j))
    (kS : ∀ b3 U3 m3 w3, PLs b3 p m3 w3 U3 B (W + 1) Y → RUs m3 w3 p j nb Hs Os y (a + 2 + l) (n + 1) → FGm p m m3 → FGw p j w w3 → PP Q (K1 m3) (K2 w3))
    (kE : ∀ m3 w3, FGm p m m3 → FGw p j w w3 → m3.1 (pq p 5) = w3.2.2.1 90 p → PP Q (K1 (enS m3 p (mk 1 20) p ee)) (K2 (wi (enR w3 p 0 ((p : Nat) : Int) (mk 1 20) ee') 151 1))) : PP Q (bnd (hm_Ma_making N m p (I 2)) (fun u _ => K1 u)) (bnd (fm_M_one N w (I ((n : Nat) : Int)) (I 2)) (fun u _ => K2 u)) := by
  obtain ⟨⟨fa, ct⟩, ⟨r2, r3⟩, ⟨f0, cr0⟩, ⟨r5, r6⟩, r7, ⟨r8, r9, r10⟩, r11, r12, r13⟩ := id ru
  have cb := CR_b cr0
  have hj : j < 60 := fa.1.2.2
  have cb2 : a + 2 + l + 1 < 24000 := by
    obtain ⟨f9, cr9⟩ := cr
    exact (CR_b cr9).1
  rw [mak2, one_2, I_F' r2, show I ((a : Nat) : Int) + 1 = I ((a + 1 : Nat) : Int) from addN, Co_e (k := a + 1) rfl (by omega), bnd_so, c1, show I ((n : Nat) : Int) + 1 = I ((n + 1 : Nat) : Int) from addN]
  refine l_bb (r_bb ?_)
  refine r_bnd (pk_mo (goto_r (N := N) (n := ((n + 1 : Nat) : Int)) hpp r11 fa.1.2.1 hj) (fun w1 _ e => ?_))
  subst e
  refine rb_ck (fun _ => ?_)
  have e25 : A (wa w 98 (60 * p + j) ((n + 1 : Nat) : Int)) 25 n = ((s0 : Nat) : Int) := by rw [wa_rne (by omega)]; exact h25
  rw [tnI (n := n) rfl (by omega), I_A' e25]
  refine r_bb ?_
  generalize hw1 : wa w 98 (60 * p + j) ((n + 1 : Nat) : Int) = w1
  have g1 : FGw p j w w1 := by rw [← hw1]; exact FGw.goto
  have pl1 : PLs b p m w1 U B W Y := by rw [← hw1]; exact PLs_98 pl
  have x33 : F w1 133 = ((p : Nat) : Int) := by rw [← hw1]; exact r11
  have x98 : A w1 98 (60 * p + j) = ((n + 1 : Nat) : Int) := by rw [← hw1, wa_sm (by omega) (by omega)]
  have xc1 : CX w1 p (hp w1 p) U ow' kd' Fv' P' W B Y := by rw [← hw1]; exact CX_98 xc
  have y40 : F w1 140 = -1 := by rw [← hw1]; exact h140
  have a1 : ∀ K i, K ≠ 98 → A w1 K i = A w K i := fun K i h => by rw [← hw1, wa_rne h]
  unfold hm_Ma_string hb_Ma_string_0 fm_M_stringRun fb_M_stringRun_0
  have s2 : (2 : Int32) * I ((l : Nat) : Int) = I ((2 * l : Nat) : Int) := by
    rw [show (2 : Int32) = I 2 from rfl, I_mul]
    congr 1
  refine rb_ck (fun _ => rb_ck (fun _ => ?_))
  rw [lt_e, show I ((s0 : Nat) : Int) + 1 = I ((s0 + 1 : Nat) : Int) from addN, tnI (n := s0 + 1) rfl (by omega), tnI (n := s0) rfl (by omega), I_A' ((a1 19 _ (by omega)).trans h19'), I_A' ((a1 19 _ (by omega)).trans h19), show I ((bb + l : Nat) : Int) - I ((bb : Nat) : Int) = I ((l : Nat) : Int) by rw [I_sub]; congr 1; omega, s2, I_F' x33]
  have e9 : F m (pq p 9) ≠ 3 := by rw [r5]; omega
  refine l_bb (r_bb ?_)
  refine pp_bb (pp_mo (room_pp (N := N) (k := 2 * l) pt cx xc1 pl1 y40 (by omega) e9 hee hN) (fun m4 r4 w4 r5' q9 => ?_))
  rcases q9 with ⟨rfl, rfl, a4, a5, b2', U2, pl4, rm4, ⟨ow2, kd2, pt4⟩, -⟩ | ⟨rfl, rfl, m5, a4, a5, rfl, h5⟩
  · rw [show decide ((1 : Int32) = 0) = false from rfl, br_f, br_f]
    have fm4 : FGm p m m4 := FGm_xr a4
    have fw4 : FGw p j w1 w4 := FGw_xr a5
    have z33 : F w4 133 = ((p : Nat) : Int) := by rw [FR.F a5.1 (by simp)]; exact x33
    have z89 : A w4 89 p = ((U2 : Nat) : Int) := pl4.1.1.2.1
    have z4 : F m4 (pq p 4) = ((U2 : Nat) : Int) := pl4.1.1.1
    obtain ⟨l4, e1, e2, e3⟩ := pt4.2.2.2.2.2.1
    have e5 : F m4 1105 = ((a : Nat) : Int) := by rw [FR.F a4 (by simp [pq_n])]; exact r2
    have w4A : ∀ K i, K = 18 ∨ K = 19 → A w4 K i = A w K i := fun K i h => by rw [FR.A a5.1 (by simp; omega), a1 K i (by omega)]
    have m423 : ∀ i, A m4 23 i = A m 23 i := fun i => FR.A a4 (by simp)
    rw [I_F' z4, show (0 : Int32) = I ((0 : Nat) : Int) from rfl]
    refine l_bnd (pk_mo (str_m (N := N) (U := U2) (W := W) (l := l) (lc := l4) (a := a) (m0 := m4) pl4.2.2.1.1 e1 ⟨e2, e3⟩ e5 (by omega) (by omega) l N m4 0 (by omega) FR.rf ⟨fun _ _ => rfl, fun r hr => by omega⟩) (fun m7 _ hh => ?_))
    obtain ⟨t1, t2, t3, t4, t5, t6, t7⟩ := hh
    rw [show (6 : Int32) = I 6 from rfl, show (I ((0 : Nat) : Int)) = I 0 from rfl, term_e, rb_bnd_so, show I ((l : Nat) : Int) - 1 = I (((l : Nat) : Int) - 1 - ((0 : Nat) : Int)) by rw [lit1, I_sub]; congr 1; omega]
    refine r_bnd (pk_mo (str_r (N := N) (U := U2) (W := W) (l := l) (bb := bb) (w0 := w4) (te := mk 6 0) hpp z33 pl4.2.2.1.2.1 (by omega) ((w4A 19 _ (by omega)).trans h19) hs0 hbl (by omega) l N w4 0 (mk 6 0) (by omega) FR.rf (by rw [z89]; congr 1) (fun _ _ => rfl) (fun _ _ => rfl) ⟨fun _ _ => rfl, fun r hr => by omega⟩ (by rw [if_pos rfl])) (fun w7 _ hh => ?_))
    obtain ⟨w5, s1, s89, so1, so2, ls, rfl⟩ := hh
    show PP Q (K1 m7) (K2 _)
    generalize hw7 : wa (wj w5 91 (46000 * p + W) (if l = 0 then mk 6 0 else mk 7 ((U2 + 2 * (l - 1) : Nat) : Int))) 92 p ((W + 1 : Nat) : Int) = w7
    have f7 : FR [] [] [89, 92] [88, 91] w4 w7 := by
      rw [← hw7]
      exact FR.wa (FR.wj (FR.mo s1 (by simp) (by simp) (by simp) (by simp)) (by simp)) (by simp)
    have hp7 : hp w7 p = hp w5 p := by
      funext i
      rw [← hw7]
      show (wj w5 91 (46000 * p + W) (if l = 0 then mk 6 0 else mk 7 ((U2 + 2 * (l - 1) : Nat) : Int))).2.2.2 88 (500 * p + i) = _
      rw [wj_22 (by omega)]
      rfl
    have w791 : ∀ i, w7.2.2.2 91 i = if i = 46000 * p + W then (if l = 0 then mk 6 0 else mk 7 ((U2 + 2 * (l - 1) : Nat) : Int)) else w4.2.2.2 91 i := fun i => by
      rw [← hw7]
      show (wj w5 91 (46000 * p + W) _).2.2.2 91 i = _
      rw [wj_row]
      by_cases c : i = 46000 * p + W
      · rw [if_pos c, if_pos c]
      · rw [if_neg c, if_neg c, s1.2.2.2 91 (by simp)]
    have e89 : A w7 89 p = ((U2 + 2 * l : Nat) : Int) := by
      rw [← hw7, wa_rne (by omega)]
      exact s89
    have e92 : A w7 92 p = ((W + 1 : Nat) : Int) := by rw [← hw7, wa_sm (by omega) (by omega)]
    have fm7 : FGm p m m7 := FGm.tr fm4 (FR.mo t1 (by simp) (by simp) (by simp) (by simp))
    have fw7 : FGw p j w1 w7 := by
      refine FGw.tr fw4 (FGw_mk f7 (fun r hr => ?_) (fun r hr => ?_) (fun i hi => ?_) (fun i hi => ?_))
      · rw [← hw7, wa_rne (by omega)]
        exact so1 r hr
      · rw [← hw7, wa_ro (by omega) (by omega), if_neg hr]
        exact FR.A s1 (by simp)
      · rw [← hw7]
        show (wj w5 91 (46000 * p + W) (if l = 0 then mk 6 0 else mk 7 ((U2 + 2 * (l - 1) : Nat) : Int))).2.2.2 88 i = _
        rw [wj_22 (by omega)]
        exact so2 i hi
      · rw [w791, if_neg (by omega)]
    have x98' : A w7 98 (60 * p + j) = ((n + 1 : Nat) : Int) := by rw [FR.A f7 (by simp), FR.A a5.1 (by simp)]; exact x98
    have rn : RTb b2' (mk 6 0) (mk 6 0) := lit_b (Or.inr (Or.inr rfl)) (fun _ => rfl) ⟨by omega, by omega⟩
    have top : ∀ (x : Int64), x = (if l = 0 then mk 6 0 else mk 7 ((U2 + 2 * (l - 1) : Nat) : Int)) → ∀ i, i ≤ W → w7.2.2.2 91 (46000 * p + i) = if i = W then x else w4.2.2.2 91 (46000 * p + i) := fun x hx i hi => by
      rw [w791, ← hx]
      by_cases c : i = W
      · rw [if_pos c, if_pos (by omega)]
      · rw [if_neg c, if_neg (by omega)]
    by_cases cl : l = 0
    · have t7' : ∀ i, i ≤ W → m7.2.2.2 (pq p 35) i = if i = W then mk 6 0 else m4.2.2.2 (pq p 35) i := fun i hi => by rw [t7 i hi, if_pos cl]
      have is7 : ISb b2' (m7.2.2.2 (pq p 2)) U2 (hp w7 p) U2 := by
        rw [hp7]
        exact ISb_ag pl4.1.2.1 t5 ls.1
      have t2' : F m7 (pq p 4) = ((U2 : Nat) : Int) := by rw [t2]; congr 1; omega
      have e89' : A w7 89 p = ((U2 : Nat) : Int) := by rw [e89]; congr 1; omega
      exact kS b2' U2 m7 w7 (PLs_mk pl4 (fun _ _ _ h => h) t1 t2' t3 (Nat.le_refl _) t7' f7 e89' pl4.1.1.2.2 e92 (top (mk 6 0) (by rw [if_pos cl])) is7 rn) (RUs_mv ru fm7 (FGw.tr g1 fw7) t4 x98' cr) fm7 (FGw.tr g1 fw7)
    · have t7' : ∀ i, i ≤ W → m7.2.2.2 (pq p 35) i = if i = W then mk 7 ((U2 : Nat) : Int) else m4.2.2.2 (pq p 35) i := fun i hi => by rw [t7 i hi, if_neg cl]
      obtain ⟨is7, rt7⟩ := pairs_iso (h2 := m7.2.2.2 (pq p 2)) (h2' := hp w7 p) (tt := fun i => mk 0 (A m4 23 (a + 2 + i))) (xx := fun i => mk 0 (A w4 18 (bb + i))) (te := mk 6 0) (xe := mk 6 0) pl4.1.2.1 (by omega) (by omega) t5 t6 (by rw [hp7]; exact ls) (fun i hi => by
        show RTb b2' (mk 0 (A m4 23 (a + 2 + i))) (mk 0 (A w4 18 (bb + i)))
        rw [m423, cs i hi, w4A 18 _ (by omega)]
        exact lit_b (Or.inl rfl) (fun c => by omega) (A_r _ _ _)) rn
      exact kS _ _ m7 w7 (PLs_mk pl4 (fun _ _ _ h => Or.inl h) t1 t2 t3 (Nat.le_refl _) t7' f7 e89 (by omega) e92 (top _ (by rw [if_neg cl])) is7 rt7) (RUs_mv ru fm7 (FGw.tr g1 fw7) t4 x98' cr) fm7 (FGw.tr g1 fw7)
  · rw [show decide ((0 : Int32) = 0) = true from rfl, br_t, br_t]
    have z33 : F w4 133 = ((p : Nat) : Int) := by rw [FR.F a5.1 (by simp)]; exact x33
    have g4 : FGw p j w w4 := FGw.tr g1 (FGw_xr a5)
    have e109 : A w4 109 p ≠ 3 := by
      rw [FR.A g4.1 (by simp), r6]; omega
    have e150 : F w4 150 = ((ee' : Nat) : Int) := by
      rw [FR.F g4.1 (by simp)]; exact hee'.1
    rw [noR_e hpp z33 e109 e150 hee'.2]
    exact kE m5 w4 (FGm_xr a4) g4 h5
end
