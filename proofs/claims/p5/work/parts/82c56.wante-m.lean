section
set_option maxRecDepth 100000
section
variable {b b2 : Int → Nat → Nat → Prop} {N q n B W Y U e k : Nat} {ow kd ow' kd' : Nat → Nat} {Fv Fv' : Int64 → Int64 → Prop} {P P' : Int64 → Prop} {m w m2 w2 : MS} {x t : Int64}
theorem RTZ_e (pl : PLs b q (wi m (pq q 26) ((W : Nat) : Int)) w n B W Y) (hq : q < 24) (hx : ∀ i, W ≤ i → i < W + e → RTb b (m.2.2.2 (pq q 35) i) x) (he : 0 < e) : RTZ b m (wl (wi w 140 ((q : Nat) : Int)) 139 x) q B (W + e) Y W B Y := by
  have e1 : F (wl (wi w 140 ((q : Nat) : Int)) 139 x) 140 = ((q : Nat) : Int) := by show F (wi w 140 ((q : Nat) : Int)) 140 = _; rw [wi_sm (by omega) (by omega)]
  obtain ⟨-, ⟨-, -, p1⟩, ⟨-, -, p2⟩, -, -, p3⟩ := pl
  refine ⟨fun K i c _ => ?_, fun K i c _ => ?_, fun _ z => ⟨pq q 35, W, Or.inr (Or.inl ⟨rfl, by omega⟩), hx W (Nat.le_refl _) (by omega)⟩⟩
  · rcases c with ⟨rfl, c⟩ | ⟨rfl, c⟩ | ⟨rfl, c⟩
    · exact Or.inl ⟨93, 2500 * q + i, Or.inr (Or.inl ⟨rfl, by omega, by omega⟩), p1 i c⟩
    · by_cases ci : i < W
      · exact Or.inl ⟨91, 46000 * q + i, Or.inl ⟨rfl, by omega, by omega⟩, p2 i ci⟩
      · exact Or.inr ⟨e1, hx i (by omega) c⟩
    · exact Or.inl ⟨107, 30 * q + i, Or.inr (Or.inr ⟨rfl, by omega, by omega⟩), p3 i c⟩
  · rcases c with ⟨rfl, c1, c2⟩ | ⟨rfl, c1, c2⟩ | ⟨rfl, c1, c2⟩
    · have := p2 (i - 46000 * q) (by omega)
      rw [show 46000 * q + (i - 46000 * q) = i by omega] at this
      exact ⟨pq q 35, i - 46000 * q, Or.inr (Or.inl ⟨rfl, by omega⟩), this⟩
    · have := p1 (i - 2500 * q) (by omega)
      rw [show 2500 * q + (i - 2500 * q) = i by omega] at this
      exact ⟨pq q 33, i - 2500 * q, Or.inl ⟨rfl, by omega⟩, this⟩
    · have := p3 (i - 30 * q) (by omega)
      rw [show 30 * q + (i - 30 * q) = i by omega] at this
      exact ⟨pq q 6, i - 30 * q, Or.inr (Or.inr ⟨rfl, by omega⟩), this⟩
theorem want_pe (p : PTQ m q n ow kd Fv P B (W + e) Y) (cx : CTX Fv P m) (xc : CX (wl (wi w 140 ((q : Nat) : Int)) 139 x) q (hp (wl (wi w 140 ((q : Nat) : Int)) 139 x) q) n ow' kd' Fv' P' W B Y) (pl : PLs b q (wi m (pq q 26) ((W : Nat) : Int)) w n B W Y) (hx : ∀ i, W ≤ i → i < W + e → RTb b (m.2.2.2 (pq q 35) i) x) (he : 0 < e) (he2 : e ≤ 100000) (hk : k ≤ 2000) (hN : 2200000 ≤ N) :
    PP (fun m2 r w2 r2 => ∃ b2 U, PLs b2 q (wi m2 (pq q 26) ((W : Nat) : Int)) w2 U B W Y ∧ (∀ i, W ≤ i → i < W + e → RTb b2 (m2.2.2.2 (pq q 35) i) (w2.2.1 139)) ∧ ((r = 0 ∧ r2 = 0) ∨ (r = 1 ∧ r2 = 1 ∧ U + k ≤ 500)) ∧ XRm q m m2 ∧ XRr q (wl (wi w 140 ((q : Nat) : Int)) 139 x) w2 ∧ (∃ ow2 kd2, PTQ m2 q U ow2 kd2 Fv P B (W + e) Y) ∧ (∃ ow2 kd2, CX w2 q (hp w2 q) U ow2 kd2 Fv' P' W B Y)) (hm_Pr_want N m q (I ((k : Nat) : Int))) (fm_M_wants N (wl (wi w 140 ((q : Nat) : Int)) 139 x) (I (q : Nat)) (I ((k : Nat) : Int))) := by
  have hq : q < 24 := xc.2.2.2.1
  have hz := RTZ_e pl hq hx he
  have e1 : F (wl (wi w 140 ((q : Nat) : Int)) 139 x) 140 = ((q : Nat) : Int) := by show F (wi w 140 ((q : Nat) : Int)) 140 = _; rw [wi_sm (by omega) (by omega)]
  have p2 := p.1.2.1
  obtain ⟨⟨⟨p1, pu, p3⟩, p4, p5⟩, ⟨p6, p7, p8⟩, ⟨p9, p10, p11⟩, p12, p13, p14⟩ := pl
  have hm : ∀ k, k < 100 → k ≠ 26 → (wi m (pq q 26) ((W : Nat) : Int)).1 (pq q k) = m.1 (pq q k) := fun k _ h => if_neg (pq_inj h)
  have hmF : ∀ k, k < 100 → k ≠ 26 → F (wi m (pq q 26) ((W : Nat) : Int)) (pq q k) = F m (pq q k) := fun k h1 h2 => congrArg Int32.toInt (hm k h1 h2)
  have bW : W ≤ 46000 := xc.2.2.2.2.1.2
  have bB : B ≤ 2500 := xc.2.2.2.2.2.1.2
  have bY : Y ≤ 30 := xc.2.2.2.2.2.2.1.2
  have h90 : m.1 (pq q 5) = (wl (wi w 140 ((q : Nat) : Int)) 139 x).2.2.1 90 q := by rw [← hm 5 (by omega) (by omega)]; exact p5
  have w0 := pp_pr (pp_pl (want_pp (N := N) (k := ((k : Nat) : Int)) p cx.1 cx.2.1 xc pu p4 hz h90 (by omega) ⟨by omega, by omega⟩ (by omega)) (pk_ok (want_ok (N := N) (x := ((k : Nat) : Int)) p cx ⟨by omega, by omega⟩ (by omega)))) (pk_ok (wants_ok (N := N) (k := k) xc pu (by omega) (by omega)))
  refine pp_mo w0 (fun m2 r w2 r2 q9 => ?_)
  obtain ⟨⟨⟨⟨b2, ⟨U, u1, u2, u3, u4⟩, x2, x3, x4⟩, y1, y2, ⟨y3, y4⟩, y5⟩, c1, U2, ow2, kd2, c2, c3, c4, -⟩, n2, ow3, kd3, fd, R, ⟨r1, r2', r3, r4, r5, r6, r7, r8, r9, r10, r11, r12⟩, r13⟩ := q9
  have e2 : U2 = U := by
    have := c2.1.1
    omega
  subst e2
  have e3 : n2 = U2 := by
    have := r5 q
    rw [if_pos rfl, u2] at this
    omega
  subst e3
  have f : XRm q m m2 := c4
  have i2 : ∀ k, k < 100 → k ≠ 4 → k ≠ 5 → m2.1 (pq q k) = m.1 (pq q k) := fun k hk h4 h5 => f.1 _ (by
    simp only [List.mem_cons, List.not_mem_nil, or_false]
    intro z
    rcases z with z | z
    · exact h4 (pq_e hk (by omega) z).2
    · exact h5 (pq_e hk (by omega) z).2)
  have gm : ∀ k, k < 100 → k ≠ 4 → k ≠ 5 → k ≠ 26 → F (wi m2 (pq q 26) ((W : Nat) : Int)) (pq q k) = F (wi m (pq q 26) ((W : Nat) : Int)) (pq q k) := fun k hk h4 h5 h6 => by
    show ((wi m2 (pq q 26) ((W : Nat) : Int)).1 (pq q k)).toInt = ((wi m (pq q 26) ((W : Nat) : Int)).1 (pq q k)).toInt
    rw [show (wi m2 (pq q 26) ((W : Nat) : Int)).1 (pq q k) = m2.1 (pq q k) from if_neg (pq_inj h6), hm k hk h6, i2 k hk h4 h5]
  have ga : ∀ K, K ≠ 89 → K ≠ 90 → K ≠ 135 → A w2 K q = A w K q := fun K h1 h2 h3 => by
    rw [FR.A r6 (by simp; omega)]
    rfl
  refine ⟨b2, n2, ⟨⟨⟨?_, u2, u3⟩, u4, ?_⟩, ⟨by rw [gm 24 (by omega) (by omega) (by omega) (by omega)]; exact p6, by rw [ga 94 (by omega) (by omega) (by omega)]; exact p7, fun i hi => ?_⟩, ⟨by rw [wi_sm (by omega) (by omega)], by rw [ga 92 (by omega) (by omega) (by omega)]; exact p10, fun i hi => ?_⟩, by rw [gm 7 (by omega) (by omega) (by omega) (by omega)]; exact p12, by rw [ga 108 (by omega) (by omega) (by omega)]; exact p13, fun i hi => ?_⟩, fun i h1 h2 => ?_, ?_, f, ⟨r6, fun s hs => ⟨?_, y2 s hs⟩, r7, fun i hi => (r8 i).2 (by omega), fun i hi => (r9 i).2 (by omega), fun i hi => (r10 i).2 (by omega)⟩, ⟨ow2, kd2, c2⟩, ⟨ow3, kd3, r3⟩⟩
  · rw [wi_ne (pq_inj (by omega))]; exact u1
  · rw [show (wi m2 (pq q 26) ((W : Nat) : Int)).1 (pq q 5) = m2.1 (pq q 5) from if_neg (pq_inj (by omega))]; exact y1
  · exact x2 _ _ _ _ (Or.inl ⟨rfl, hi⟩) (Or.inr (Or.inl ⟨rfl, by omega, by omega⟩)) (p8 i hi)
  · exact x2 _ _ _ _ (Or.inr (Or.inl ⟨rfl, by omega⟩)) (Or.inl ⟨rfl, by omega, by omega⟩) (p11 i hi)
  · exact x2 _ _ _ _ (Or.inr (Or.inr ⟨rfl, hi⟩)) (Or.inr (Or.inr ⟨rfl, by omega, by omega⟩)) (p14 i hi)
  · exact x3 e1 (pq q 35) i (Or.inr (Or.inl ⟨rfl, h2⟩)) (hx i h1 h2)
  · rcases y4 with z | z
    · exact Or.inl ⟨z, by rw [← y3]; exact z⟩
    · refine Or.inr ⟨z, by rw [← y3]; exact z, ?_⟩
      have := c3 z
      omega
  · rw [r5 s, if_neg hs]
end
end
section
set_option maxRecDepth 100000
section
variable {b b2 : Int → Nat → Nat → Prop} {N q U B W Y k : Nat} {m w m2 w2 : MS} {x t : Int64} {v : Int} {h h' h2 h2' : Nat → Int64}
theorem tup_iso {L L' : List Int64} (s : ISb b h U h' U) (hl : L.length = k) (hl' : L'.length = k) (rt : ∀ (i : Nat) (t x : Int64), L[i]? = some t → L'[i]? = some x → RTb b t x) (hU : U + (k + 1) ≤ 1000) (hd : vn (h2 U) = k) (hd' : vn (h2' U) = k) (cs : ∀ (i : Nat) (t : Int64), L[i]? = some t → h2 (U + 1 + i) = t) (cs' : ∀ (i : Nat) (t : Int64), L'[i]? = some t → h2' (U + 1 + i) = t) (hh : ∀ i, i < U → h2 i = h i) (hh' : ∀ i, i < U → h2' i = h' i) : ISb (fun k a c => b k a c ∨ (k = so (mk 5 ((U : Nat) : Int)) ∧ a = U ∧ c = U)) h2 (U + (k + 1)) h2' (U + (k + 1)) ∧ RTb (fun k a c => b k a c ∨ (k = so (mk 5 ((U : Nat) : Int)) ∧ a = U ∧ c = U)) (mk 5 ((U : Nat) : Int)) (mk 5 ((U : Nat) : Int)) := by
  have s5 : so (mk 5 ((U : Nat) : Int)) = 5 := so_mk (by omega) (by omega)
  have v5 : va (mk 5 ((U : Nat) : Int)) = ((U : Nat) : Int) := va_mk (by omega) (by omega)
  have n5 : vn (mk 5 ((U : Nat) : Int)) = U := by unfold vn; rw [v5]; omega
  have pr : prt (mk 5 ((U : Nat) : Int)) = 1 := by unfold prt; rw [s5, if_neg (by omega), if_pos rfl]
  refine ISb_new (m := k + 1) s (isH_mk (by omega)) rfl ⟨by rw [v5]; omega, by rw [v5]; omega⟩ n5 n5 ?_ ?_ ⟨by omega, by omega⟩ hh hh' (fun j h1 h3 => ?_) (fun e => ?_)
  · unfold blk; rw [s5, if_neg (by omega), if_pos rfl, n5, hd]; omega
  · unfold blk; rw [s5, if_neg (by omega), if_pos rfl, n5, hd']; omega
  · rw [pr] at h1
    have i1 : j - 1 < L.length := by omega
    have i2 : j - 1 < L'.length := by omega
    have c1 := cs (j - 1) _ (List.getElem?_eq_getElem i1)
    have c2 := cs' (j - 1) _ (List.getElem?_eq_getElem i2)
    rw [show U + j = U + 1 + (j - 1) by omega, c1, c2]
    exact rt (j - 1) _ _ (List.getElem?_eq_getElem i1) (List.getElem?_eq_getElem i2)
  · rw [s5] at e
    omega
theorem pair_m (hU : F m (pq q 4) = ((U : Nat) : Int)) (h5 : U + 3 ≤ 512) : PK (fun m2 r => m2 = wi (wj (wj (wj m (pq q 2) U (mk 8 2)) (pq q 2) (U + 1) (mk 1 v)) (pq q 2) (U + 2) t) (pq q 4) ((U + 3 : Nat) : Int) ∧ r = mk 5 ((U : Nat) : Int)) (hm_Pr_pair N m q (I v) t) := by
  unfold hm_Pr_pair hb_Pr_pair_0
  rw [I_F' hU, show I ((U : Nat) : Int) + 3 = I ((U + 3 : Nat) : Int) from addN, show (512 : Int32) = I 512 from rfl, decI (by omega) (by omega) (by omega) (by omega), decide_eq_true (by omega), br_tq, show (8 : Int32) = I 8 from rfl, show (2 : Int32) = I 2 from rfl, e_make, bnd_so]
  refine pk_ck (fun _ => pk_ltq ?_)
  rw [tnI (n := U) rfl (by omega), wj_e, show (1 : Int32) = I 1 from rfl, e_make, bnd_so]
  refine pk_ck (fun _ => pk_ltq ?_)
  rw [show I ((U : Nat) : Int) + I 1 = I ((U + 1 : Nat) : Int) from addN, tnI (n := U + 1) rfl (by omega), wj_e]
  refine pk_ck (fun _ => pk_ltq ?_)
  rw [show I ((U : Nat) : Int) + I 2 = I ((U + 2 : Nat) : Int) from addN, tnI (n := U + 2) rfl (by omega), wj_e]
  have g4 : F (wj (wj (wj m (pq q 2) U (mk 8 2)) (pq q 2) (U + 1) (mk 1 v)) (pq q 2) (U + 2) t) (pq q 4) = ((U : Nat) : Int) := hU
  rw [I_F' g4, show I ((U : Nat) : Int) + 3 = I ((U + 3 : Nat) : Int) from addN]
  refine pk_ltq ?_
  rw [wi_e, show (5 : Int32) = I 5 from rfl, e_make, bnd_so]
  exact pk_some ⟨rfl, rfl⟩
theorem two_r (hq : q < 24) (h3 : F w 133 = ((q : Nat) : Int)) (hu : A w 89 q = ((U : Nat) : Int)) (h5 : U + 3 ≤ 500) : PK (fun w2 r => w2 = wa (wj (wj (wj w 88 (500 * q + U) 2) 88 (500 * q + (U + 1)) (mk 1 v)) 88 (500 * q + (U + 2)) x) 89 q ((U + 3 : Nat) : Int) ∧ r = mk 5 ((U : Nat) : Int)) (fm_M_two N w (I v) x) := by
  unfold fm_M_two fb_M_two_0
  rw [I_F' h3, tnI (n := q) rfl (by omega), I_A' hu]
  refine pk_ck (fun _ => pk_ltq (pk_ck (fun _ => pk_ltq ?_)))
  rw [tn88 (by omega) (by omega), wj_e, show (1 : Int32) = I 1 from rfl, term_e, bnd_so]
  refine pk_ck (fun _ => pk_ltq ?_)
  rw [tn88s (z := 1) (k := 1) rfl (by omega) (by omega), wj_e]
  refine pk_ck (fun _ => pk_ltq ?_)
  rw [show (2 : Int32) = I 2 from rfl, tn88s (z := 2) (k := 2) rfl (by omega) (by omega), wj_e]
  have g3 : F (wj (wj (wj w 88 (500 * q + U) 2) 88 (500 * q + (U + 1)) (mk 1 v)) 88 (500 * q + (U + 2)) x) 133 = ((q : Nat) : Int) := h3
  have g89 : A (wj (wj (wj w 88 (500 * q + U) 2) 88 (500 * q + (U + 1)) (mk 1 v)) 88 (500 * q + (U + 2)) x) 89 q = ((U : Nat) : Int) := hu
  rw [I_F' g3, tnI (n := q) rfl (by omega), I_A' g89, show I ((U : Nat) : Int) + 3 = I ((U + 3 : Nat) : Int) from addN]
  refine pk_ck (fun _ => pk_ck (fun _ => pk_ltq ?_))
  rw [wa_e]
  have g3' : F (wa (wj (wj (wj w 88 (500 * q + U) 2) 88 (500 * q + (U + 1)) (mk 1 v)) 88 (500 * q + (U + 2)) x) 89 q ((U + 3 : Nat) : Int)) 133 = ((q : Nat) : Int) := h3
  have g89' : A (wa (wj (wj (wj w 88 (500 * q + U) 2) 88 (500 * q + (U + 1)) (mk 1 v)) 88 (500 * q + (U + 2)) x) 89 q ((U + 3 : Nat) : Int)) 89 q = ((U + 3 : Nat) : Int) := by rw [wa_sm (by omega) (by omega)]
  refine pk_ck (fun _ => ?_)
  rw [I_F' g3', tnI (n := q) rfl (by omega), I_A' g89', show I ((U + 3 : Nat) : Int) - 3 = I ((U : Nat) : Int) by rw [show (3 : Int32) = I 3 from rfl, I_sub]; congr 1; omega, show (5 : Int32) = I 5 from rfl, term_e, bnd_so]
  exact pk_some ⟨rfl, rfl⟩
theorem pair_pp (hq : q < 24) (h3 : F w 133 = ((q : Nat) : Int)) (hU : F m (pq q 4) = ((U : Nat) : Int)) (hu : A w 89 q = ((U : Nat) : Int)) (h5 : U + 3 ≤ 500) (is : ISb b (m.2.2.2 (pq q 2)) U (hp w q) U) (rt : RTb b t x) (hv : RG v) : PP (fun m2 t2 w2 x2 => ∃ b2, ISb b2 (m2.2.2.2 (pq q 2)) (U + 3) (hp w2 q) (U + 3) ∧ RTb b2 t2 x2 ∧ (∀ k a c, b k a c → b2 k a c) ∧ (F m2 (pq q 4) = ((U + 3 : Nat) : Int) ∧ A w2 89 q = ((U + 3 : Nat) : Int)) ∧ FR [pq q 4] [] [] [pq q 2] m m2 ∧ FR [] [] [89] [88] w w2 ∧ (∀ r, r ≠ q → A w2 89 r = A w 89 r) ∧ ∀ i, ¬ (500 * q ≤ i ∧ i < 500 * q + 500) → w2.2.2.2 88 i = w.2.2.2 88 i) (hm_Pr_pair N m q (I v) t) (fm_M_two N w (I v) x) := by
  intro m2 t2 w2 x2 e1 e2
  obtain ⟨rfl, rfl⟩ := pair_m (N := N) (v := v) (t := t) hU (by omega) _ _ e1
  obtain ⟨rfl, rfl⟩ := two_r (N := N) (v := v) (x := x) hq h3 hu h5 _ _ e2
  have ra : RTb b (mk 1 v) (mk 1 v) := RTb_lit (nh_mk (by omega)) (fun e => by rw [so_mk (by omega) (by omega)] at e; omega)
  have c8 : vn (mk 8 2) = 2 := by unfold vn; rw [va_mk (by omega) (by omega)]; rfl
  have cm : ∀ i, (wi (wj (wj (wj m (pq q 2) U (mk 8 2)) (pq q 2) (U + 1) (mk 1 v)) (pq q 2) (U + 2) t) (pq q 4) ((U + 3 : Nat) : Int)).2.2.2 (pq q 2) i = if i = U + 2 then t else if i = U + 1 then mk 1 v else if i = U then mk 8 2 else m.2.2.2 (pq q 2) i := fun i => by
    show (wj (wj (wj m (pq q 2) U (mk 8 2)) (pq q 2) (U + 1) (mk 1 v)) (pq q 2) (U + 2) t).2.2.2 (pq q 2) i = _
    rw [wj_row, wj_row, wj_row]
  have cw : ∀ i, hp (wa (wj (wj (wj w 88 (500 * q + U) 2) 88 (500 * q + (U + 1)) (mk 1 v)) 88 (500 * q + (U + 2)) x) 89 q ((U + 3 : Nat) : Int)) q i = if i = U + 2 then x else if i = U + 1 then mk 1 v else if i = U then 2 else hp w q i := fun i => by
    show (wj (wj (wj w 88 (500 * q + U) 2) 88 (500 * q + (U + 1)) (mk 1 v)) 88 (500 * q + (U + 2)) x).2.2.2 88 (500 * q + i) = _
    rw [wj_row, wj_row, wj_row]
    by_cases c1 : i = U + 2
    · rw [if_pos c1, if_pos (by omega)]
    · rw [if_neg c1, if_neg (by omega)]
      by_cases c2 : i = U + 1
      · rw [if_pos c2, if_pos (by omega)]
      · rw [if_neg c2, if_neg (by omega)]
        by_cases c3 : i = U
        · rw [if_pos c3, if_pos (by omega)]
        · rw [if_neg c3, if_neg (by omega)]
          rfl
  have ti := tup_iso (k := 2) (L := [mk 1 v, t]) (L' := [mk 1 v, x]) (h2 := (wi (wj (wj (wj m (pq q 2) U (mk 8 2)) (pq q 2) (U + 1) (mk 1 v)) (pq q 2) (U + 2) t) (pq q 4) ((U + 3 : Nat) : Int)).2.2.2 (pq q 2)) (h2' := hp (wa (wj (wj (wj w 88 (500 * q + U) 2) 88 (500 * q + (U + 1)) (mk 1 v)) 88 (500 * q + (U + 2)) x) 89 q ((U + 3 : Nat) : Int)) q) is rfl rfl (fun i t1 x1 g1 g2 => ?_) (by omega) (by rw [cm, if_neg (by omega), if_neg (by omega), if_pos rfl]; exact c8) (by rw [cw, if_neg (by omega), if_neg (by omega), if_pos rfl]; rfl) (fun i t1 g1 => ?_) (fun i t1 g1 => ?_) (fun i hi => by rw [cm, if_neg (by omega), if_neg (by omega), if_neg (by omega)]) (fun i hi => by rw [cw, if_neg (by omega), if_neg (by omega), if_neg (by omega)])
  · refine ⟨_, ti.1, ti.2, fun k a c z => Or.inl z, ⟨?_, ?_⟩, FR.wi (FR.wj (FR.wj (FR.wj FR.rf (by simp)) (by simp)) (by simp)) (by simp), FR.wa (FR.wj (FR.wj (FR.wj FR.rf (by simp)) (by simp)) (by simp)) (by simp), fun r hr => ?_, fun i hi => ?_⟩
    · rw [wi_sm (by omega) (by omega)]
    · rw [wa_sm (by omega) (by omega)]
    · rw [A_wa (by omega) (by omega), if_pos rfl, if_neg hr]
      rfl
    · show (wj (wj (wj w 88 (500 * q + U) 2) 88 (500 * q + (U + 1)) (mk 1 v)) 88 (500 * q + (U + 2)) x).2.2.2 88 i = _
      rw [wj_row, wj_row, wj_row, if_neg (by omega), if_neg (by omega), if_neg (by omega)]
  · match i, g1, g2 with
    | 0, g1, g2 =>
      have e1 : mk 1 v = t1 := by simpa using g1
      have e2 : mk 1 v = x1 := by simpa using g2
      rw [← e1, ← e2]; exact ra
    | 1, g1, g2 =>
      have e1 : t = t1 := by simpa using g1
      have e2 : x = x1 := by simpa using g2
      rw [← e1, ← e2]; exact rt
    | i + 2, g1, _ => simp at g1
  · match i, g1 with
    | 0, g1 =>
      have e1 : mk 1 v = t1 := by simpa using g1
      rw [cm, if_neg (by omega), if_pos (by omega)]; exact e1
    | 1, g1 =>
      have e1 : t = t1 := by simpa using g1
      rw [cm, if_pos (by omega)]; exact e1
    | i + 2, g1 => simp at g1
  · match i, g1 with
    | 0, g1 =>
      have e1 : mk 1 v = t1 := by simpa using g1
      rw [cw, if_neg (by omega), if_pos (by omega)]; exact e1
    | 1, g1 =>
      have e1 : x = t1 := by simpa using g1
      rw [cw, if_pos (by omega)]; exact e1
    | i + 2, g1 => simp at g1
end
end
section
set_option maxRecDepth 100000
section
variable {b : Int → Nat → Nat → Prop} {Fv Fv' : Int64 → Int64 → Prop} {P P' : Int64 → Prop} {N PR p i j e e' U o hm : Nat} {m w m1 w1 : MS} {t x : Int64} {wr : Int} {cur : Option Nat} {ow kd ow' kd' ow2 kd2 : Nat → Nat}
theorem WL_end2 (W : WLs (RRt p) PR Fv P Fv' P' cur i j m w) (hpp : p < PR) (hal : F m (pq p 9) ≠ 3 ∧ A w 109 p ≠ 3) (hc : some p ≠ cur) (g1 : GGm p m m1) (g2 : GGw p w w1) (sc : SCs p m1 w1) (b15 : 0 ≤ F m1 (pq p 15) ∧ F m1 (pq p 15) ≤ 24) (h5 : m1.1 (pq p 5) = w1.2.2.1 90 p) (he : F m 955 = ((e : Nat) : Int) ∧ e < 24) (he' : F w 150 = ((e' : Nat) : Int) ∧ e' < 4000) (hw : RG wr) (ho : o < 25) (s2 : SFs Fv P Fv' P' PR (enS m1 p t hm e) (enR w1 p wr ((o : Nat) : Int) x e')) (rq : RQs Fv P Fv' P' PR (enS m1 p t hm e) (enR w1 p wr ((o : Nat) : Int) x e') p wr o x) : WLs (RRt p) PR Fv P Fv' P' cur i j (enS m1 p t hm e) (enR w1 p wr ((o : Nat) : Int) x e') := by
  have p24 := W.1.2.1.1.1.2
  obtain ⟨L, l1, l2⟩ := LS_of sc b15
  have fr := enR_fr (w := w1) (q := p) (wr := wr) (o := o) (x := x) (e := e')
  obtain ⟨k1, k2⟩ := enS_q (m := m1) (t := t) (hm := hm) (show e < 1000 by omega) (show p < 1000 by omega)
  obtain ⟨r1, r2, r3, r4, r5⟩ := enR_q (w := w1) (x := x) (show e' < 10000 by omega) (show p < 1000 by omega) (show o < 1000 by omega) hw
  have v := enS_v (m := m1) (q := p) (t := t) (hm := hm) (e := e)
  have a9 := enR_9 (w := w1) (q := p) (wr := wr) (o := o) (x := x) (e := e')
  have n9 : ∀ k, k < 100 → k ≠ 9 → k ≠ 17 → (enS m1 p t hm e).1 (pq p k) = m1.1 (pq p k) := fun k h0 h4 h5 => enS_1 (pq_inj h4) (pq_inj h5) (fun c => pq_n (by omega) c.symm)
  have aw : ∀ K, K = 113 ∨ K = 114 ∨ K = 116 ∨ K = 117 → (enR w1 p wr ((o : Nat) : Int) x e').2.2.1 K = w1.2.2.1 K := fun K h => fr.2.2.1 K (by simp; omega)
  have qe : QEs (enS m1 p t hm e) (enR w1 p wr ((o : Nat) : Int) x e') p := ⟨by rw [n9 12 (by omega) (by omega) (by omega), aw 113 (by omega)]; exact sc.1, by rw [n9 13 (by omega) (by omega) (by omega), aw 114 (by omega)]; exact sc.2.1, by rw [n9 5 (by omega) (by omega) (by omega), fr.2.2.1 90 (by simp)]; exact h5, L, LSm_st l1 (n9 15 (by omega) (by omega) (by omega)) (enS_3 (fun c => pq_n (by omega) c.symm)), LSw_fr l2 (aw 116 (by omega)) (aw 117 (by omega))⟩
  have D : ∀ d, d ≠ p → LOCm d m (enS m1 p t hm e) ∧ LOCw d w (enR w1 p wr ((o : Nat) : Int) x e') := fun d hd => ⟨LOCm.tr (g1.1 d hd) (LOCm_en hd), LOCw.tr (g2.1 d hd) (LOCw_en hd)⟩
  have pg : PG0 m w (enS m1 p t hm e) (enR w1 p wr ((o : Nat) : Int) x e') := PG0.tr (PG0_gg g1 g2) PGs_en.1
  have dq : ∀ d, F m (pq d 9) = 3 → d ≠ p := fun d hd c => hal.1 (by rw [← c]; exact hd)
  have dq2 : ∀ d, d = 24 ∨ A w 109 d = 3 → d ≠ p := fun d hd c => by
    rcases hd with hd | hd
    · omega
    · exact hal.2 (by rw [← c]; exact hd)
  have f9 : ∀ d, d ≠ p → F (enS m1 p t hm e) (pq d 9) = F m (pq d 9) := fun d hd => congrArg Int32.toInt ((D d hd).1 9 (by omega)).1
  have a9' : ∀ d, d ≠ p → A (enR w1 p wr ((o : Nat) : Int) x e') 109 d = A w 109 d := fun d hd => congrArg Int32.toInt ((D d hd).2.1 109 d (Or.inl ⟨by omega, rfl⟩))
  have dm : ∀ d, F m (pq d 9) = 3 → F (enS m1 p t hm e) (pq d 9) = 3 ∧ (enS m1 p t hm e).2.2.2 (pq d 2) = m.2.2.2 (pq d 2) ∧ (enS m1 p t hm e).1 (pq d 17) = m.1 (pq d 17) ∧ (enS m1 p t hm e).2.1 (pq d 16) = m.2.1 (pq d 16) := fun d hd => ⟨by rw [f9 d (dq d hd)]; exact hd, ((D d (dq d hd)).1 2 (by omega)).2.2.2, ((D d (dq d hd)).1 17 (by omega)).1, ((D d (dq d hd)).1 16 (by omega)).2.1⟩
  refine WL_gen W s2 dm (fun d hd => ⟨fun i hi => (D d (dq2 d hd)).2.2.2.2.2.1 _ (by omega) (by omega), congrArg Int32.toInt ((D d (dq2 d hd)).2.2.1 89 (by omega))⟩) (fun d hd => by rw [a9' d (dq2 d (Or.inr hd))]; exact hd) (fun r _ hr _ h => QEs_st h (D r (dq r hr)).1 (D r (dq r hr)).2) (fun r _ _ h => DEs_st h pg (D r (dq r h.1)).1 (D r (dq r h.1)).2 (fun d hd => ⟨(dm d hd).1, (dm d hd).2.1⟩)) (fun r hr x1 x2 x3 => ?_) ⟨e, e', he.1, he'.1, fun k hk => ?_, fun k hk => ⟨fun K hK => ?_, ?_⟩, Or.inr ⟨k1, r1, ⟨p, wr, o, ⟨hpp, hc, v.1⟩, ?_, ?_, ?_, ?_, ?_, qe⟩, p, hal.1, ?_⟩⟩
  · by_cases rq : r = p
    · subst rq
      refine Or.inr ⟨v.1, by rw [a9, if_pos rfl], ?_, by rw [k1, he.1]; omega⟩
      rw [he.1, show ((e : Nat) : Int).toNat = e by omega, k2, if_pos rfl]
    · obtain ⟨b, U, B, W4, Y, pl, sc, rr⟩ := x3
      obtain ⟨-, -, ⟨b1, b2, b3⟩, b4⟩ := SF_al W.1 hr x1 pl
      have hU := pl.1.1.2.2
      obtain ⟨l1, l2⟩ := D r rq
      refine Or.inl ⟨by rw [f9 r rq]; exact x1, by rw [a9' r rq]; exact x2, b, U, B, W4, Y, PLs_cg pl (fun k hk => (l1 k (by simp at hk; omega)).1) (fun i _ => by rw [(l1 2 (by omega)).2.2.2]) (fun i _ => by rw [(l1 33 (by omega)).2.2.2]) (fun i _ => by rw [(l1 35 (by omega)).2.2.2]) (fun i _ => by rw [(l1 6 (by omega)).2.2.2]) (fun k hk => ?_) (fun i hi => l2.2.2.2.2.1 _ (by omega) (by omega)) (fun i hi => l2.2.2.2.2.2.2.1 _ (by omega) (by omega)) (fun i hi => l2.2.2.2.2.2.1 _ (by omega) (by omega)) (fun i hi => l2.2.2.2.2.2.2.2 _ (by omega) (by omega)), SC_eq sc b4.2 (EQm_loc pg l1) (EQw_loc pg l2), RRt_st rr (EQm_loc pg l1).n (EQw_loc pg l2).v⟩
      simp only [List.mem_cons, List.not_mem_nil, or_false] at hk
      rcases hk with rfl | rfl | rfl | rfl | rfl
      · exact l2.2.1 89 (by omega)
      · exact l2.2.1 90 (by omega)
      · exact l2.1 92 r (Or.inl ⟨by omega, rfl⟩)
      · exact l2.1 94 r (Or.inl ⟨by omega, rfl⟩)
      · exact l2.2.1 108 (by omega)
  · rw [k2, if_neg (by omega)]
    show (m1.2.2.1 54 k).toInt = _
    rw [g1.2.2.2.1]
    rfl
  · have eK : A w1 K k = A w K k := by
      show (w1.2.2.1 K k).toInt = _
      rw [g2.2.2.2.1 K hK]
      rfl
    rcases hK with rfl | rfl | rfl
    · rw [r2, if_neg (by omega)]; exact eK
    · rw [r3, if_neg (by omega)]; exact eK
    · rw [r4, if_neg (by omega)]; exact eK
  · rw [r5, if_neg (by omega), g2.2.2.2.2.1]
  · rw [k2, if_pos rfl]
  · rw [r2, if_pos rfl]
  · rw [r3, if_pos rfl]
  · rw [r4, if_pos rfl]
  · rw [r5, if_pos rfl]; exact rq
  · rw [k2, if_pos rfl]
theorem hp_enR : hp (enR w1 p wr ((o : Nat) : Int) x e') p = hp w1 p := by
  unfold hp
  rw [(enR_fr (w := w1) (q := p) (wr := wr) (o := o) (x := x) (e := e')).2.2.2 88 (by simp)]
theorem TE_own {B W Y : Nat} (hp' : p < PR) (p24 : p < 24) (cx : CX w p (hp w p) U ow' kd' Fv' P' W B Y) (h89 : A w 89 p = ((U : Nat) : Int)) (hU : U ≤ 500) (g' : GT U ow' kd' P' x) : TE Fv' P' (enR w p wr ((o : Nat) : Int) x e') PR p x := by
  have fr := enR_fr (w := w) (q := p) (wr := wr) (o := o) (x := x) (e := e')
  by_cases z : isH x
  · refine Or.inr ⟨z, Or.inr ⟨hp', by rw [enR_9, if_pos rfl]⟩, U, ow', kd', by rw [FR.A fr (by simp)]; exact h89, hU, by rw [hp_enR]; exact cx.2.1, g'⟩
  · refine Or.inl ⟨z, ?_⟩
    rcases g' with g | g
    · exact g.2
    · exact absurd g.1 z
theorem RQ_own {B W Y : Nat} (hp' : p < PR) (p24 : p < 24) (is : ISb b (m.2.2.2 (pq p 2)) U (hp w p) U) (hg : HPc (m.2.2.2 (pq p 2)) U ow kd Fv P) (cx : CX w p (hp w p) U ow' kd' Fv' P' W B Y) (h89 : A w 89 p = ((U : Nat) : Int)) (hU : U ≤ 500) (g : GT U ow kd P t) (g' : GT U ow' kd' P' x) (rt : RTb b t x) : RQs Fv P Fv' P' PR (enS m p t p e) (enR w p 0 ((p : Nat) : Int) x e') p 0 p x := by
  have v := enS_v (m := m) (q := p) (t := t) (hm := p) (e := e)
  obtain ⟨f, s, z⟩ := HP_szc hg g
  obtain ⟨f', s', z'⟩ := HP_sz cx.2.1 g'
  have es := SZ_iso is rt z z'
  subst es
  refine ⟨p, s, by rw [v.2.1]; exact rf_some p24, hp', v.1, Or.inr ⟨hp', by rw [enR_9, if_pos rfl]⟩, ⟨by omega, Or.inr ⟨p, b, U, ow, kd, f, U, ow', kd', f', rfl, ⟨hg, by omega, fun c => by omega⟩, ⟨by rw [hp_enR]; exact cx.2.1, hU, fun c => by omega⟩, by rw [hp_enR]; exact is.w, by rw [v.2.2]; exact z, Or.inl ⟨rfl, by rw [v.2.2]; exact rt, by rw [hp_enR]; exact z'⟩⟩⟩, TE_own hp' p24 cx h89 hU g'⟩
theorem RQ_wrap {B W Y : Nat} (hp' : p < PR) (p24 : p < 24) (hwr : wr = 1 ∨ wr = 2) (is : ISb b (m.2.2.2 (pq p 2)) U (hp w p) U) (hh : ∀ i, i < U → m1.2.2.2 (pq p 2) i = m.2.2.2 (pq p 2) i) (c0 : m1.2.2.2 (pq p 2) U = mk 8 2) (c1 : m1.2.2.2 (pq p 2) (U + 1) = mk 1 (if wr = 1 then 7 else 19)) (c2 : m1.2.2.2 (pq p 2) (U + 2) = t) (hg : HPc (m1.2.2.2 (pq p 2)) (U + 3) ow2 kd2 Fv P) (gt : GT (U + 3) ow2 kd2 P (mk 5 ((U : Nat) : Int))) (cx : CX w p (hp w p) U ow' kd' Fv' P' W B Y) (h89 : A w 89 p = ((U : Nat) : Int)) (hU : U ≤ 500) (g' : GT U ow' kd' P' x) (rt : RTb b t x) : RQs Fv P Fv' P' PR (enS m1 p (mk 5 ((U : Nat) : Int)) p e) (enR w p wr ((p : Nat) : Int) x e') p wr p x := by
  have v := enS_v (m := m1) (q := p) (t := mk 5 ((U : Nat) : Int)) (hm := p) (e := e)
  have s5 : so (mk 5 ((U : Nat) : Int)) = 5 := so_mk (by omega) (by omega)
  have v5 : va (mk 5 ((U : Nat) : Int)) = ((U : Nat) : Int) := va_mk (by omega) (by omega)
  have n5 : vn (mk 5 ((U : Nat) : Int)) = U := by unfold vn; rw [v5]; omega
  have pr : prt (mk 5 ((U : Nat) : Int)) = 1 := by unfold prt; rw [s5, if_neg (by omega), if_pos rfl]
  have c8 : vn (mk 8 2) = 2 := by unfold vn; rw [va_mk (by omega) (by omega)]; rfl
  have bl : blk (m1.2.2.2 (pq p 2)) (mk 5 ((U : Nat) : Int)) = 3 := by unfold blk; rw [s5, if_neg (by omega), if_pos rfl, n5, c0, c8]
  have is1 : ISb b (m1.2.2.2 (pq p 2)) (U + 3) (hp w p) U := ISb_up (ISb_ag is hh (fun _ _ => rfl)) (by omega) (Nat.le_refl _)
  obtain ⟨f', z, z'⟩ := HP_sz cx.2.1 g'
  obtain ⟨f, s, zs⟩ := HP_szc hg gt
  have es : s = 3 + z := by
    match f, zs with
    | 0, zs => exact zs.elim
    | f + 1, zs =>
      rcases zs with ⟨z1, -⟩ | ⟨-, -, c, z3, z4⟩
      · exact absurd (isH_mk (by omega)) z1
      · have y1 := z3 1 (by rw [pr]; omega) (by rw [bl]; omega)
        have y2 := z3 2 (by rw [pr]; omega) (by rw [bl]; omega)
        rw [n5, c1] at y1
        rw [n5, c2] at y2
        have e1 : c 1 = 0 := by
          match f, y1 with
          | 0, y1 => exact y1.elim
          | f + 1, y1 =>
            rcases y1 with ⟨-, -, e⟩ | ⟨e, -⟩
            · exact e
            · exact absurd e (nh_mk (by omega))
        have e2 := SZ_iso is1 rt y2 z'
        have e3 : smm c 1 2 = c 1 + c 2 := by rw [smm_split, smm_split]; rfl
        rw [z4, bl, pr, e3, e1, e2]
        omega
  refine ⟨p, s, by rw [v.2.1]; exact rf_some p24, hp', v.1, Or.inr ⟨hp', by rw [enR_9, if_pos rfl]⟩, ⟨by omega, Or.inr ⟨p, b, U + 3, ow2, kd2, f, U, ow', kd', f', rfl, ⟨hg, by omega, fun c => by omega⟩, ⟨by rw [hp_enR]; exact cx.2.1, hU, fun c => by omega⟩, by rw [hp_enR]; exact is1.w, by rw [v.2.2]; exact zs, Or.inr ⟨z, hwr, es, by rw [v.2.2]; exact s5, by rw [v.2.2]; exact bl, ?_, ?_, by rw [hp_enR]; exact z'⟩⟩⟩, TE_own hp' p24 cx h89 hU g'⟩
  · rw [v.2.2, n5]; exact c1
  · rw [v.2.2, n5]
    show RTb b (m1.2.2.2 (pq p 2) (U + 2)) x
    rw [c2]; exact rt
end
end
section
set_option maxRecDepth 100000
def unS (m : MS) (p c r B0 W0 : Nat) : MS := wi (wi (wi (wi m (pq p 28) ((c : Nat) : Int)) (pq p 21) ((r + 1 : Nat) : Int)) (pq p 24) ((B0 : Nat) : Int)) (pq p 26) ((W0 : Nat) : Int)
def unR (w : MS) (p c r B0 W0 : Nat) : MS := wa (wa (wa (wa w 106 p ((c : Nat) : Int)) 95 p ((r + 1 : Nat) : Int)) 92 p ((W0 : Nat) : Int)) 94 p ((B0 : Nat) : Int)
def tkO (Os : Nat → List Nat) (r k : Nat) : Nat → List Nat := fun i => if i = r then (Os r).take k else Os i
section
variable {α β : Type} {b : Int → Nat → Nat → Prop} {N p k l U B W Y j a n c r B0 W0 a0 nd nn : Nat} {m w m2 w2 m3 w3 : MS} {t x : Int64} {nb : Nat → Nat} {Hs Os : Nat → List Nat} {y : Option (Nat × Nat × Nat)} {Q : MS → α → MS → β → Prop} {D : Option (MS × α)} {kn : Int} {S : SG_M_error}
theorem unwind_m (h28 : F m (pq p 28) = ((c + 1 : Nat) : Int)) (hc : c < 2000) (q0 : A m (pq p 37) (4 * c) = ((r + 1 : Nat) : Int)) (q1 : A m (pq p 37) (4 * c + 1) = ((B0 : Nat) : Int)) (q2 : A m (pq p 37) (4 * c + 2) = ((W0 : Nat) : Int)) (q3 : A m (pq p 37) (4 * c + 3) = ((a0 : Nat) : Int)) : PK (fun m2 z => m2 = unS m p c r B0 W0 ∧ z = I ((a0 : Nat) : Int)) (hm_Fr_unwind N m p) := by
  unfold hm_Fr_unwind hb_Fr_unwind_0
  have cm1 : I ((c + 1 : Nat) : Int) - 1 = I ((c : Nat) : Int) := by rw [lit1q, I_sub]; congr 1; omega
  rw [I_F' h28, lit0q, decE (by omega) (by omega) (by omega) (by omega), decide_eq_false (by omega), br_fq, cm1, wi_e]
  refine pk_ltq ?_
  have e28 : F (wi m (pq p 28) ((c : Nat) : Int)) (pq p 28) = ((c : Nat) : Int) := by rw [wi_sm (by omega) (by omega)]
  have m4 : I ((c : Nat) : Int) * 4 = I ((4 * c : Nat) : Int) := by rw [show (4 : Int32) = I 4 from rfl, I_mul]; congr 1; omega
  rw [I_F' e28, m4, show I ((4 * c : Nat) : Int) + 1 = I ((4 * c + 1 : Nat) : Int) from addN, show I ((4 * c : Nat) : Int) + 2 = I ((4 * c + 2 : Nat) : Int) from addN, show I ((4 * c : Nat) : Int) + 3 = I ((4 * c + 3 : Nat) : Int) from addN, tnI (n := 4 * c) rfl (by omega), tnI (n := 4 * c + 1) rfl (by omega), tnI (n := 4 * c + 2) rfl (by omega), tnI (n := 4 * c + 3) rfl (by omega)]
  refine pk_ck (fun _ => pk_ltq ?_)
  rw [show (wi m (pq p 28) ((c : Nat) : Int)).2.2.1 (pq p 37) (4 * c) = I ((r + 1 : Nat) : Int) from I_A' q0, wi_e]
  refine pk_ck (fun _ => pk_ltq ?_)
  rw [show (wi (wi m (pq p 28) ((c : Nat) : Int)) (pq p 21) ((r + 1 : Nat) : Int)).2.2.1 (pq p 37) (4 * c + 1) = I ((B0 : Nat) : Int) from I_A' q1, wi_e]
  refine pk_ck (fun _ => pk_ltq ?_)
  rw [show (wi (wi (wi m (pq p 28) ((c : Nat) : Int)) (pq p 21) ((r + 1 : Nat) : Int)) (pq p 24) ((B0 : Nat) : Int)).2.2.1 (pq p 37) (4 * c + 2) = I ((W0 : Nat) : Int) from I_A' q2, wi_e]
  refine pk_ck (fun _ => pk_some ⟨rfl, ?_⟩)
  exact I_A' q3
theorem goes_c {K : MS → Unit → Option (MS × β)} (hpp : p < 24) (h152 : F w 152 = 0) (h3 : F w 133 = ((p : Nat) : Int)) (h106 : A w 106 p = ((c + 1 : Nat) : Int)) (hc : c < 1600) (q0 : A w 102 (1600 * p + c) = ((r : Nat) : Int)) (hr : r < 60) (q1 : A w 105 (1600 * p + c) = ((B0 : Nat) : Int)) (q2 : A w 104 (1600 * p + c) = ((W0 : Nat) : Int))
    (h : PP Q D (bnd (br (decide (I kn = 2)) (bnd (fm_M_put N (unR w p c r B0 W0) x) (fun u15 _ => fb_M_goesUp_205 N S () u15 (I ((1600 * p + c : Nat) : Int)))) (bnd (fm_M_hand N (unR w p c r B0 W0) (I ((p : Nat) : Int)) x) (fun u10 _ => bnd (fm_M_wants N u10 (u10.1 133) 3) (fun u11 r11 => br (decide (r11 = 0)) (bnd (fm_M_handNone N u11) (fun u13 _ => bnd (fm_M_noRoom N u13) (fun u14 _ => some (u14, ())))) (bnd (fm_M_handNone N u11) (fun u12 _ => br (decide (I kn = 0)) (fb_M_goesUp_197 N S () u12 (I ((1600 * p + c : Nat) : Int)) (u11.2.1 139) 7) (fb_M_goesUp_197 N S () u12 (I ((1600 * p + c : Nat) : Int)) (u11.2.1 139) 8))))))) K)) : PP Q D (bnd (fm_M_goesUp N S w (I kn) x) K) := by
  unfold fm_M_goesUp fb_M_goesUp_0
  have cm1 : I ((c + 1 : Nat) : Int) - 1 = I ((c : Nat) : Int) := by rw [lit1q, I_sub]; congr 1; omega
  have ey : I ((p : Nat) : Int) * 1600 + I ((c : Nat) : Int) = I ((1600 * p + c : Nat) : Int) := by rw [show (1600 : Int32) = I 1600 from rfl, I_mul, I_add]; congr 1; omega
  have dz : decide (I ((c + 1 : Nat) : Int) = 0) = false := by rw [lit0q, decE (by omega) (by omega) (by omega) (by omega)]; exact decide_eq_false (by omega)
  rw [I_F' h152, show decide (I 0 = 0) = true from rfl, br_tq]
  refine rb_ck (fun _ => ?_)
  rw [I_F' h3, tnI (n := p) rfl (by omega), I_A' h106, dz, br_fq, cm1]
  refine rb_ck (fun _ => rb_ck (fun _ => rb_lt ?_))
  rw [wa_e]
  have g3 : F (wa w 106 p ((c : Nat) : Int)) 133 = ((p : Nat) : Int) := h3
  have g106 : A (wa w 106 p ((c : Nat) : Int)) 106 p = ((c : Nat) : Int) := by rw [wa_sm (by omega) (by omega)]
  have g102 : A (wa w 106 p ((c : Nat) : Int)) 102 (1600 * p + c) = ((r : Nat) : Int) := by rw [wa_rne (by omega)]; exact q0
  rw [I_F' g3, tnI (n := p) rfl (by omega), I_A' g106, ey]
  refine rb_ck (fun _ => rb_lt (rb_ck (fun _ => rb_ck (fun _ => rb_lt ?_))))
  rw [tnI (n := 1600 * p + c) rfl (by omega), I_A' g102, show I ((r : Nat) : Int) + 1 = I ((r + 1 : Nat) : Int) from addN, wa_e]
  have g3' : F (wa (wa w 106 p ((c : Nat) : Int)) 95 p ((r + 1 : Nat) : Int)) 133 = ((p : Nat) : Int) := h3
  have g104 : A (wa (wa w 106 p ((c : Nat) : Int)) 95 p ((r + 1 : Nat) : Int)) 104 (1600 * p + c) = ((W0 : Nat) : Int) := by rw [wa_rne (by omega), wa_rne (by omega)]; exact q2
  rw [I_F' g3', tnI (n := p) rfl (by omega), I_A' g104]
  refine rb_ck (fun _ => rb_ck (fun _ => rb_lt ?_))
  rw [wa_e]
  have hW := A_r w 104 (1600 * p + c)
  rw [q2] at hW
  have g3'' : F (wa (wa (wa w 106 p ((c : Nat) : Int)) 95 p ((r + 1 : Nat) : Int)) 92 p ((W0 : Nat) : Int)) 133 = ((p : Nat) : Int) := h3
  have g105 : A (wa (wa (wa w 106 p ((c : Nat) : Int)) 95 p ((r + 1 : Nat) : Int)) 92 p ((W0 : Nat) : Int)) 105 (1600 * p + c) = ((B0 : Nat) : Int) := by rw [wa_rne (by omega), wa_rne (by omega), wa_rne (by omega)]; exact q1
  rw [I_F' g3'', tnI (n := p) rfl (by omega), I_A' g105]
  refine rb_ck (fun _ => rb_ck (fun _ => rb_lt ?_))
  rw [wa_e]
  have g3z : F (unR w p c r B0 W0) 133 = ((p : Nat) : Int) := h3
  have z : wa (wa (wa (wa w 106 p ((c : Nat) : Int)) 95 p ((r + 1 : Nat) : Int)) 92 p ((W0 : Nat) : Int)) 94 p ((B0 : Nat) : Int) = unR w p c r B0 W0 := rfl
  rw [z, I_F' g3z]
  exact h
theorem ct_mono {f : Nat → Int} (h : ∀ c, c + 1 < n → f c ≤ f (c + 1)) : ∀ d c, c + d < n → f c ≤ f (c + d) := by
  intro d
  induction d with
  | zero => intro c _; exact Int.le_refl _
  | succ d ih =>
    intro c hc
    have h1 := ih c (by omega)
    have h2 := h (c + d) (by omega)
    rw [show c + d + 1 = c + (d + 1) by omega] at h2
    omega
theorem CT_last (ct : CTs m w p j nb Hs Os) (hn : F m (pq p 28) = ((c + 1 : Nat) : Int)) : ∃ r k a nd nn : Nat, r ≤ j ∧ A m (pq p 37) (4 * c) = ((r + 1 : Nat) : Int) ∧ A w 102 (1600 * p + c) = ((r : Nat) : Int) ∧ A m (pq p 37) (4 * c + 1) = ((nb r + (Hs r).length + k : Nat) : Int) ∧ A w 105 (1600 * p + c) = ((nb r + (Hs r).length + k : Nat) : Int) ∧ k ≤ (Os r).length ∧ A m (pq p 37) (4 * c + 2) = A w 104 (1600 * p + c) ∧ A m (pq p 37) (4 * c + 3) = ((a : Nat) : Int) ∧ A w 103 (1600 * p + c) = ((nd : Nat) : Int) ∧ A w 25 nd = ((nn : Nat) : Int) ∧ ∃ f, CRs (A m 23) (ROs w) (w.2.2.2 34) f none a nn (Hs r) ((Os r).take k) := by
  obtain ⟨n', c1, c2, c3, c4, c5⟩ := ct
  exact c5 c (by omega)
theorem FA_fall (fa : FAs m w p j nb Hs Os) (hr : r ≤ j) (hk : k ≤ (Os r).length) : FAs (unS m p c r (nb r + (Hs r).length + k) W0) (unR w p c r (nb r + (Hs r).length + k) W0) p r nb Hs (tkO Os r k) := by
  obtain ⟨⟨f1, f2, f3⟩, f4, f5, f6⟩ := fa
  have hb : nb r + (Hs r).length + k ≤ nb j + (Hs j).length + (Os j).length := by
    have := nb_le ⟨⟨f1, f2, f3⟩, f4, f5, f6⟩ (j - r) r (by omega)
    omega
  have b24 := F_r m (pq p 24)
  rw [f6, List.length_append] at b24
  have am : ∀ K i, A (unS m p c r (nb r + (Hs r).length + k) W0) K i = A m K i := fun _ _ => rfl
  have aw : ∀ K i, K ≠ 92 → K ≠ 94 → K ≠ 95 → K ≠ 106 → (unR w p c r (nb r + (Hs r).length + k) W0).2.2.1 K i = w.2.2.1 K i := fun K i h1 h2 h3 h4 => ((wa_at (fun c => h2 c.1)).trans (wa_at (fun c => h1 c.1))).trans ((wa_at (fun c => h3 c.1)).trans (wa_at (fun c => h4 c.1)))
  have aW : ∀ K i, K ≠ 92 → K ≠ 94 → K ≠ 95 → K ≠ 106 → A (unR w p c r (nb r + (Hs r).length + k) W0) K i = A w K i := fun K i h1 h2 h3 h4 => congrArg Int32.toInt (aw K i h1 h2 h3 h4)
  have pr : ∀ K, PRr K → (unR w p c r (nb r + (Hs r).length + k) W0).2.2.1 K = w.2.2.1 K := fun K h => by funext i; exact aw K i (by unfold PRr at h; omega) (by unfold PRr at h; omega) (by unfold PRr at h; omega) (by unfold PRr at h; omega)
  refine ⟨⟨?_, ?_, by omega⟩, fun i hi => ?_, fun i hi => ?_, ?_⟩
  · show F (wi (wi (wi (wi m (pq p 28) _) (pq p 21) _) (pq p 24) _) (pq p 26) _) (pq p 21) = _
    show (if pq p 21 = pq p 26 then _ else if pq p 21 = pq p 24 then _ else if pq p 21 = pq p 21 then I ((r + 1 : Nat) : Int) else _).toInt = _
    rw [if_neg (pq_inj (by omega)), if_neg (pq_inj (by omega)), if_pos rfl]
    exact I_ti (by omega) (by omega)
  · show ((unR w p c r (nb r + (Hs r).length + k) W0).2.2.1 95 p).toInt = _
    unfold unR
    rw [wa_at (by omega), wa_at (by omega)]
    show A (wa (wa w 106 p ((c : Nat) : Int)) 95 p ((r + 1 : Nat) : Int)) 95 p = _
    rw [wa_sm (by omega) (by omega)]
  · obtain ⟨g1, g2, ⟨g3, g4⟩, g5, g6, g7⟩ := f4 i (by omega)
    refine ⟨by rw [am, aW 96 _ (by omega) (by omega) (by omega) (by omega)]; exact g1, ?_, ⟨by rw [am]; exact g3, by rw [aW 99 _ (by omega) (by omega) (by omega) (by omega)]; exact g4⟩, by rw [am, aW 100 _ (by omega) (by omega) (by omega) (by omega)]; exact g5, by rw [aW 101 _ (by omega) (by omega) (by omega) (by omega)]; exact g6, fun i2 x2 hx => ?_⟩
    · rw [am, aW 97 _ (by omega) (by omega) (by omega) (by omega)]
      rcases g2 with g2 | ⟨k2, t2, e1, e2, e3⟩
      · exact Or.inl g2
      · exact Or.inr ⟨k2, t2, e1, by rw [aW 44 _ (by omega) (by omega) (by omega) (by omega)]; exact e2, by rw [aW 8 _ (by omega) (by omega) (by omega) (by omega)]; exact e3⟩
    · rw [am]
      refine g7 i2 x2 ?_
      unfold tkO at hx
      by_cases ir : i = r
      · rw [if_pos ir] at hx
        subst ir
        rw [List.getElem?_append] at hx ⊢
        by_cases c2 : i2 < (Hs i).length
        · rw [if_pos c2] at hx ⊢; exact hx
        · rw [if_neg c2] at hx ⊢
          rw [List.getElem?_take] at hx
          by_cases c3 : i2 - (Hs i).length < k
          · rw [if_pos c3] at hx; exact hx
          · rw [if_neg c3] at hx; cases hx
      · rw [if_neg ir] at hx; exact hx
  · obtain ⟨g1, a, n, g2, g3, f, g4⟩ := f5 i (by omega)
    have ir : i ≠ r := by omega
    refine ⟨by unfold tkO; rw [if_neg ir]; exact g1, a, n, by rw [am]; exact g2, by rw [aW 98 _ (by omega) (by omega) (by omega) (by omega)]; exact g3, f, ?_⟩
    unfold tkO
    rw [if_neg ir, ROs_eq pr]
    exact g4
  · show (if pq p 24 = pq p 26 then _ else if pq p 24 = pq p 24 then I ((nb r + (Hs r).length + k : Nat) : Int) else _).toInt = _
    rw [if_neg (pq_inj (by omega)), if_pos rfl, I_ti (by omega) (by omega)]
    unfold tkO
    rw [if_pos rfl, List.length_append, List.length_take]
    congr 1
    omega
theorem CT_fall (ct : CTs m w p j nb Hs Os) (hn : F m (pq p 28) = ((c + 1 : Nat) : Int)) (hr : r ≤ j) (q1 : A w 102 (1600 * p + c) = ((r : Nat) : Int)) (q2 : A w 105 (1600 * p + c) = ((nb r + (Hs r).length + k : Nat) : Int)) (hk : k ≤ (Os r).length) : CTs (unS m p c r B0 W0) (unR w p c r B0 W0) p r nb Hs (tkO Os r k) := by
  obtain ⟨n', c1, c2, c3, c4, c5⟩ := ct
  have e : n' = c + 1 := by omega
  subst e
  have am : ∀ K i, A (unS m p c r B0 W0) K i = A m K i := fun _ _ => rfl
  have aw : ∀ K i, K ≠ 92 → K ≠ 94 → K ≠ 95 → K ≠ 106 → (unR w p c r B0 W0).2.2.1 K i = w.2.2.1 K i := fun K i h1 h2 h3 h4 => ((wa_at (fun c => h2 c.1)).trans (wa_at (fun c => h1 c.1))).trans ((wa_at (fun c => h3 c.1)).trans (wa_at (fun c => h4 c.1)))
  have aW : ∀ K i, K ≠ 92 → K ≠ 94 → K ≠ 95 → K ≠ 106 → A (unR w p c r B0 W0) K i = A w K i := fun K i h1 h2 h3 h4 => congrArg Int32.toInt (aw K i h1 h2 h3 h4)
  have pr : ∀ K, PRr K → (unR w p c r B0 W0).2.2.1 K = w.2.2.1 K := fun K h => by funext i; exact aw K i (by unfold PRr at h; omega) (by unfold PRr at h; omega) (by unfold PRr at h; omega) (by unfold PRr at h; omega)
  refine ⟨c, ?_, ?_, by omega, fun c' hc => ?_, fun c' hc => ?_⟩
  · show (if pq p 28 = pq p 26 then _ else if pq p 28 = pq p 24 then _ else if pq p 28 = pq p 21 then _ else if pq p 28 = pq p 28 then I ((c : Nat) : Int) else _).toInt = _
    rw [if_neg (pq_inj (by omega)), if_neg (pq_inj (by omega)), if_neg (pq_inj (by omega)), if_pos rfl]
    exact I_ti (by omega) (by omega)
  · show ((unR w p c r B0 W0).2.2.1 106 p).toInt = _
    unfold unR
    rw [wa_at (by omega), wa_at (by omega), wa_at (by omega)]
    show A (wa w 106 p ((c : Nat) : Int)) 106 p = _
    rw [wa_sm (by omega) (by omega)]
  · rw [aW 102 _ (by omega) (by omega) (by omega) (by omega), aW 102 _ (by omega) (by omega) (by omega) (by omega), aW 105 _ (by omega) (by omega) (by omega) (by omega), aW 105 _ (by omega) (by omega) (by omega) (by omega)]
    exact c4 c' (by omega)
  · obtain ⟨r', k', a, nd2, nn2, s1, s2, s3, s4, s5, s6, s7, s8, s9, s10, f, s11⟩ := c5 c' (by omega)
    have m1 := ct_mono (f := fun i => A w 102 (1600 * p + i)) (n := c + 1) (fun i hi => (c4 i hi).1) (c - c') c' (by omega)
    have m2 := ct_mono (f := fun i => A w 105 (1600 * p + i)) (n := c + 1) (fun i hi => (c4 i hi).2) (c - c') c' (by omega)
    rw [show c' + (c - c') = c by omega] at m1 m2
    have m1' : A w 102 (1600 * p + c') ≤ A w 102 (1600 * p + c) := m1
    have m2' : A w 105 (1600 * p + c') ≤ A w 105 (1600 * p + c) := m2
    rw [s3, q1] at m1'
    rw [s5, q2] at m2'
    have hr' : r' ≤ r := by omega
    refine ⟨r', k', a, nd2, nn2, hr', by rw [am]; exact s2, by rw [aW 102 _ (by omega) (by omega) (by omega) (by omega)]; exact s3, by rw [am]; exact s4, by rw [aW 105 _ (by omega) (by omega) (by omega) (by omega)]; exact s5, ?_, by rw [am, aW 104 _ (by omega) (by omega) (by omega) (by omega)]; exact s7, by rw [am]; exact s8, by rw [aW 103 _ (by omega) (by omega) (by omega) (by omega)]; exact s9, by rw [aW 25 _ (by omega) (by omega) (by omega) (by omega)]; exact s10, f, ?_⟩
    · unfold tkO
      by_cases e : r' = r
      · subst e
        rw [if_pos rfl, List.length_take]
        omega
      · rw [if_neg e]; exact s6
    · rw [ROs_eq pr]
      unfold tkO
      by_cases e : r' = r
      · subst e
        rw [if_pos rfl, List.take_take, Nat.min_eq_left (by omega)]
        exact s11
      · rw [if_neg e]; exact s11
theorem PL_fall (pl : PLs b p (wi m (pq p 26) ((W : Nat) : Int)) w U B W Y) (hB : B0 ≤ B) (hW : W0 ≤ W) (hb : B ≤ 100000 ∧ W ≤ 100000) : PLs b p (unS m p c r B0 W0) (unR w p c r B0 W0) U B0 W0 Y := by
  obtain ⟨⟨⟨p1, p2, p3⟩, p4, p5⟩, ⟨p6, p7, p8⟩, ⟨p9, p10, p11⟩, p12, p13, p14⟩ := pl
  have im : ∀ k, k ≠ 21 → k ≠ 24 → k ≠ 26 → k ≠ 28 → (unS m p c r B0 W0).1 (pq p k) = (wi m (pq p 26) ((W : Nat) : Int)).1 (pq p k) := fun k h1 h2 h3 h4 => by
    show (if pq p k = pq p 26 then _ else if pq p k = pq p 24 then _ else if pq p k = pq p 21 then _ else if pq p k = pq p 28 then _ else m.1 (pq p k)) = (if pq p k = pq p 26 then _ else m.1 (pq p k))
    rw [if_neg (pq_inj h3), if_neg (pq_inj h2), if_neg (pq_inj h1), if_neg (pq_inj h4), if_neg (pq_inj h3)]
  have fm : ∀ k, k ≠ 21 → k ≠ 24 → k ≠ 26 → k ≠ 28 → F (unS m p c r B0 W0) (pq p k) = F (wi m (pq p 26) ((W : Nat) : Int)) (pq p k) := fun k h1 h2 h3 h4 => congrArg Int32.toInt (im k h1 h2 h3 h4)
  have aw : ∀ K i, K ≠ 92 → K ≠ 94 → K ≠ 95 → K ≠ 106 → (unR w p c r B0 W0).2.2.1 K i = w.2.2.1 K i := fun K i h1 h2 h3 h4 => ((wa_at (fun c => h2 c.1)).trans (wa_at (fun c => h1 c.1))).trans ((wa_at (fun c => h3 c.1)).trans (wa_at (fun c => h4 c.1)))
  have aW : ∀ K i, K ≠ 92 → K ≠ 94 → K ≠ 95 → K ≠ 106 → A (unR w p c r B0 W0) K i = A w K i := fun K i h1 h2 h3 h4 => congrArg Int32.toInt (aw K i h1 h2 h3 h4)
  refine ⟨⟨⟨by rw [fm 4 (by omega) (by omega) (by omega) (by omega)]; exact p1, by rw [aW 89 _ (by omega) (by omega) (by omega) (by omega)]; exact p2, p3⟩, p4, by rw [im 5 (by omega) (by omega) (by omega) (by omega), aw 90 _ (by omega) (by omega) (by omega) (by omega)]; exact p5⟩, ⟨?_, ?_, fun i hi => p8 i (by omega)⟩, ⟨?_, ?_, fun i hi => p11 i (by omega)⟩, by rw [fm 7 (by omega) (by omega) (by omega) (by omega)]; exact p12, by rw [aW 108 _ (by omega) (by omega) (by omega) (by omega)]; exact p13, p14⟩
  · show (if pq p 24 = pq p 26 then _ else if pq p 24 = pq p 24 then I ((B0 : Nat) : Int) else _).toInt = _
    rw [if_neg (pq_inj (by omega)), if_pos rfl]
    exact I_ti (by omega) (by omega)
  · show A (wa (wa (wa (wa w 106 p _) 95 p _) 92 p _) 94 p ((B0 : Nat) : Int)) 94 p = _
    rw [wa_sm (by omega) (by omega)]
  · show (if pq p 26 = pq p 26 then I ((W0 : Nat) : Int) else _).toInt = _
    rw [if_pos rfl]
    exact I_ti (by omega) (by omega)
  · show A (wa (wa (wa (wa w 106 p _) 95 p _) 92 p ((W0 : Nat) : Int)) 94 p ((B0 : Nat) : Int)) 92 p = _
    rw [wa_rne (by omega), wa_sm (by omega) (by omega)]
end
end
section
set_option maxRecDepth 100000
section
variable {b b2 : Int → Nat → Nat → Prop} {N p n B W Wc Y U e c r B0 W0 d ee : Nat} {ow kd ow' kd' : Nat → Nat} {Fv Fv' : Int64 → Int64 → Prop} {P P' : Int64 → Prop} {m w m2 w2 : MS} {x t : Int64} {is ls as js : List Nat} {z : Int}
theorem GGm_fr (f : FR is ls as js m m2) (h1 : ∀ k, k ∈ is → (∃ l, l < 100 ∧ k = pq p l) ∨ (1100 ≤ k ∧ k < 1120 ∧ k ≠ 1106 ∧ k ≠ 1107)) (h2 : ∀ k, k ∈ ls → (∃ l, l < 100 ∧ k = pq p l) ∨ (1100 ≤ k ∧ k < 1120)) (h3 : ∀ k, k ∈ as → ∃ l, l < 100 ∧ k = pq p l) (h4 : ∀ k, k ∈ js → (∃ l, l < 100 ∧ k = pq p l) ∨ k < 100) : GGm p m m2 := by
  have ne : ∀ d k l, d ≠ p → k < 100 → l < 100 → pq d k ≠ pq p l := fun d k l hd hk hl c => hd (pq_e hk hl c).1
  refine ⟨fun d hd k hk => ⟨f.1 _ (fun c => ?_), f.2.1 _ (fun c => ?_), f.2.2.1 _ (fun c => ?_), f.2.2.2 _ (fun c => ?_)⟩, ⟨f.2.2.1 23 (fun c => ?_), f.1 22 (fun c => ?_), f.2.2.1 2 (fun c => ?_), f.2.2.1 3 (fun c => ?_)⟩, f.1 955 (fun c => ?_), f.2.2.1 54 (fun c => ?_), f.1 956 (fun c => ?_), fun K hK => f.2.2.1 K (fun c => ?_), fun k hk => f.1 k (fun c => ?_)⟩
  · rcases h1 _ c with ⟨l, hl, e⟩ | e
    · exact ne d k l hd hk hl e
    · unfold pq at e; omega
  · rcases h2 _ c with ⟨l, hl, e⟩ | e
    · exact ne d k l hd hk hl e
    · unfold pq at e; omega
  · obtain ⟨l, hl, e⟩ := h3 _ c
    exact ne d k l hd hk hl e
  · rcases h4 _ c with ⟨l, hl, e⟩ | e
    · exact ne d k l hd hk hl e
    · unfold pq at e; omega
  · obtain ⟨l, hl, e⟩ := h3 _ c
    unfold pq at e; omega
  · rcases h1 _ c with ⟨l, hl, e⟩ | e
    · unfold pq at e; omega
    · omega
  · obtain ⟨l, hl, e⟩ := h3 _ c
    unfold pq at e; omega
  · obtain ⟨l, hl, e⟩ := h3 _ c
    unfold pq at e; omega
  · rcases h1 _ c with ⟨l, hl, e⟩ | e
    · unfold pq at e; omega
    · omega
  · obtain ⟨l, hl, e⟩ := h3 _ c
    unfold pq at e; omega
  · rcases h1 _ c with ⟨l, hl, e⟩ | e
    · unfold pq at e; omega
    · omega
  · obtain ⟨l, hl, e⟩ := h3 _ c
    unfold pq at e; omega
  · rcases h1 _ c with ⟨l, hl, e⟩ | e
    · unfold pq at e; omega
    · omega
theorem GGm_xr (f : XRm p m m2) : GGm p m m2 := GGm_fr f (fun k hk => by
  simp only [List.mem_cons, List.not_mem_nil, or_false] at hk
  rcases hk with rfl | rfl
  · exact Or.inl ⟨4, by omega, rfl⟩
  · exact Or.inl ⟨5, by omega, rfl⟩) (by simp) (by simp) (fun k hk => by
  simp only [List.mem_cons, List.not_mem_nil, or_false] at hk
  rcases hk with rfl | rfl | rfl | rfl | rfl
  · exact Or.inl ⟨2, by omega, rfl⟩
  · exact Or.inl ⟨3, by omega, rfl⟩
  · exact Or.inl ⟨33, by omega, rfl⟩
  · exact Or.inl ⟨35, by omega, rfl⟩
  · exact Or.inl ⟨6, by omega, rfl⟩)
theorem GGm_pu (f : FR [pq p 26, pq p 45] [] [] [pq p 35] m m2) : GGm p m m2 := GGm_fr f (fun k hk => by
  simp only [List.mem_cons, List.not_mem_nil, or_false] at hk
  rcases hk with rfl | rfl
  · exact Or.inl ⟨26, by omega, rfl⟩
  · exact Or.inl ⟨45, by omega, rfl⟩) (by simp) (by simp) (fun k hk => by
  simp only [List.mem_cons, List.not_mem_nil, or_false] at hk
  subst hk
  exact Or.inl ⟨35, by omega, rfl⟩)
theorem GGm_pa (f : FR [pq p 4] [] [] [pq p 2] m m2) : GGm p m m2 := GGm_fr f (fun k hk => by
  simp only [List.mem_cons, List.not_mem_nil, or_false] at hk
  subst hk
  exact Or.inl ⟨4, by omega, rfl⟩) (by simp) (by simp) (fun k hk => by
  simp only [List.mem_cons, List.not_mem_nil, or_false] at hk
  subst hk
  exact Or.inl ⟨2, by omega, rfl⟩)
theorem GGw_xm (h : XMr p w w2) : GGw p w w2 := ⟨fun d hd => LOCw_xm h hd, ⟨fun K hK => h.1.2.2.1 K (by unfold PRr at hK; simp; omega), h.1.2.2.2 34 (by simp), h.1.2.2.1 12 (by simp), h.1.2.2.1 13 (by simp), h.1.1 14 (by simp)⟩, h.1.1 150 (by simp), fun K hK => h.1.2.2.1 K (by simp; omega), h.1.2.2.2 148 (by simp), fun K hK => h.1.2.2.1 K (by simp; omega), fun k hk => h.1.1 k (by simp; omega)⟩
theorem XMr_two (f : FR [] [] [89] [88] w w2) (h1 : ∀ r, r ≠ p → A w2 89 r = A w 89 r) (h2 : ∀ i, ¬ (500 * p ≤ i ∧ i < 500 * p + 500) → w2.2.2.2 88 i = w.2.2.2 88 i) : XMr p w w2 := ⟨FR.mo f (by simp) (by simp) (by simp) (by simp), fun r hr => ⟨h1 r hr, by rw [f.2.2.1 90 (by simp)], FR.A f (by simp)⟩, h2, fun i _ => by rw [f.2.2.2 91 (by simp)], fun i _ => by rw [f.2.2.2 93 (by simp)], fun i _ => by rw [f.2.2.2 107 (by simp)]⟩
theorem PTQ_fall (q : PTQ m p n ow kd Fv P B Wc Y) (hB : B0 ≤ B) (hW : W0 ≤ Wc) : PTQ (unS m p c r B0 W0) p n ow kd Fv P B0 W0 Y := by
  have bb := PTQ_b q
  obtain ⟨⟨q1, q2, q3⟩, ⟨q4, q5⟩, ⟨q6, q7⟩, ⟨q8, q9⟩, ⟨l1, e1, e2, e3⟩, ⟨l2, e4, e5, e6⟩, e7⟩ := q
  have im : ∀ k, k ≠ 21 → k ≠ 24 → k ≠ 26 → k ≠ 28 → F (unS m p c r B0 W0) (pq p k) = F m (pq p k) := fun k h1 h2 h3 h4 => by
    show (if pq p k = pq p 26 then _ else if pq p k = pq p 24 then _ else if pq p k = pq p 21 then _ else if pq p k = pq p 28 then _ else m.1 (pq p k)).toInt = _
    rw [if_neg (pq_inj h3), if_neg (pq_inj h2), if_neg (pq_inj h1), if_neg (pq_inj h4)]
    rfl
  refine ⟨⟨by rw [im 4 (by omega) (by omega) (by omega) (by omega)]; exact q1, q2, q3⟩, ⟨?_, fun i hi => q5 i (by omega)⟩, ⟨?_, fun i hi => q7 i (by omega)⟩, ⟨by rw [im 7 (by omega) (by omega) (by omega) (by omega)]; exact q8, q9⟩, ⟨l1, by rw [im 43 (by omega) (by omega) (by omega) (by omega)]; exact e1, by omega, e3⟩, ⟨l2, by rw [im 45 (by omega) (by omega) (by omega) (by omega)]; exact e4, by omega, e6⟩, e7⟩
  · show (if pq p 24 = pq p 26 then _ else if pq p 24 = pq p 24 then I ((B0 : Nat) : Int) else _).toInt = _
    rw [if_neg (pq_inj (by omega)), if_pos rfl]
    exact I_ti (by omega) (by omega)
  · show (if pq p 26 = pq p 26 then I ((W0 : Nat) : Int) else _).toInt = _
    rw [if_pos rfl]
    exact I_ti (by omega) (by omega)
theorem CX_fall (q : CX w p (hp w p) n ow' kd' Fv' P' W B Y) (hB : B0 ≤ B) (hW : W0 ≤ W) : CX (unR w p c r B0 W0) p (hp (unR w p c r B0 W0) p) n ow' kd' Fv' P' W0 B0 Y := by
  obtain ⟨-, q2, q3, q4, ⟨q5, q5b⟩, ⟨q6, q6b⟩, ⟨q7, q7b⟩, q8, q9, q10, q11⟩ := q
  refine ⟨rfl, q2, q3, q4, ⟨?_, by omega⟩, ⟨?_, by omega⟩, ⟨?_, q7b⟩, fun i hi => q8 i (by omega), fun i hi => q9 i (by omega), q10, q11⟩
  · show A (wa (wa (wa (wa w 106 p _) 95 p _) 92 p ((W0 : Nat) : Int)) 94 p ((B0 : Nat) : Int)) 92 p = _
    rw [wa_rne (by omega), wa_sm (by omega) (by omega)]
  · show A (wa (wa (wa (wa w 106 p _) 95 p _) 92 p _) 94 p ((B0 : Nat) : Int)) 94 p = _
    rw [wa_sm (by omega) (by omega)]
  · rw [← q7]
    exact congrArg Int32.toInt (((wa_at (by omega)).trans (wa_at (by omega))).trans ((wa_at (by omega)).trans (wa_at (by omega))))
theorem CX_hand (q : CX w p (hp w p) n ow' kd' Fv' P' W B Y) (g : GT n ow' kd' P' x) : CX (wl (wi w 140 z) 139 x) p (hp (wl (wi w 140 z) 139 x) p) n ow' kd' Fv' P' W B Y := by
  obtain ⟨-, q2, q3, q4, q5, q6, q7, q8, q9, q10, -⟩ := q
  exact ⟨rfl, q2, q3, q4, q5, q6, q7, q8, q9, q10, fun _ => g⟩
theorem room_pe (q : PTQ m p n ow kd Fv P B (W + e) Y) (cx : CTX Fv P m) (xc : CX w p (hp w p) n ow' kd' Fv' P' W B Y) (pl : PLs b p (wi m (pq p 26) ((W : Nat) : Int)) w n B W Y) (hx : ∀ i, W ≤ i → i < W + e → RTb b (m.2.2.2 (pq p 35) i) x) (g' : GT n ow' kd' P' x) (he : 0 < e) (he2 : e ≤ 100000) (h9 : F m (pq p 9) ≠ 3) (hee : F m 955 = ((ee : Nat) : Int) ∧ ee < 24) (h3 : F w 133 = ((p : Nat) : Int)) (hN : 2200000 ≤ N) :
    PP (fun m2 r w2 r2 => (r = 1 ∧ r2 = 1 ∧ XRm p m m2 ∧ XRr p (wl (wi w 140 ((p : Nat) : Int)) 139 x) w2 ∧ ∃ b2 U, PLs b2 p (wi m2 (pq p 26) ((W : Nat) : Int)) w2 U B W Y ∧ (∀ i, W ≤ i → i < W + e → RTb b2 (m2.2.2.2 (pq p 35) i) (w2.2.1 139)) ∧ U + 3 ≤ 500 ∧ (∃ ow2 kd2, PTQ m2 p U ow2 kd2 Fv P B (W + e) Y) ∧ (∃ ow2 kd2, CX w2 p (hp w2 p) U ow2 kd2 Fv' P' W B Y)) ∨ (r = 0 ∧ r2 = 0 ∧ ∃ m4, XRm p m m4 ∧ XRr p (wl (wi w 140 ((p : Nat) : Int)) 139 x) w2 ∧ m2 = enS m4 p (mk 1 20) p ee ∧ m4.1 (pq p 5) = w2.2.2.1 90 p)) (hm_Ma_room N m p 3) (bnd (fm_M_hand N w (I ((p : Nat) : Int)) x) (fun u1 _ => fm_M_wants N u1 (u1.1 133) 3)) := by
  have hN2 : fm_M_hand N w (I ((p : Nat) : Int)) x = some (wl (wi w 140 ((p : Nat) : Int)) 139 x, ()) := hand_e
  have g3 : F (wl (wi w 140 ((p : Nat) : Int)) 139 x) 133 = ((p : Nat) : Int) := by rw [F_wl, wi_ne (by omega)]; exact h3
  rw [hN2, bnd_so, I_F' g3]
  unfold hm_Ma_room hb_Ma_room_0
  have wp := want_pe (k := 3) q cx (CX_hand xc g') pl hx he he2 (by omega) hN
  intro m2 r w2 r2 e1 e2
  cases hz : hm_Pr_want N m p 3 with
  | none => rw [hz] at e1; cases e1
  | some z =>
    obtain ⟨m4, r4⟩ := z
    rw [hz, bnd_so] at e1
    obtain ⟨b2, U, a1, a2, a3, a4, a5, a6, a7⟩ := wp m4 r4 w2 r2 hz e2
    rcases a3 with ⟨c1, c2⟩ | ⟨c1, c2, c3⟩
    · subst c1 c2
      rw [show decide ((0 : Int32) = 0) = true from rfl, br_tq] at e1
      have e9 : F m4 (pq p 9) ≠ 3 := by
        rw [FR.F a4 (by
          simp only [List.mem_cons, List.not_mem_nil, or_false]
          intro c
          rcases c with c | c
          · exact pq_inj (by omega) c
          · exact pq_inj (by omega) c)]
        exact h9
      have e55 : F m4 955 = ((ee : Nat) : Int) := by rw [FR.F a4 (by simp [pq_n])]; exact hee.1
      have eb : hm_Wl_endsBy N m4 p 20 = some (enS m4 p (mk 1 20) p ee, ()) := by
        unfold hm_Wl_endsBy hb_Wl_endsBy_0
        rw [show (1 : Int32) = I 1 from rfl, show (20 : Int32) = I 20 from rfl, e_make, bnd_so, endsW_e e9 e55 hee.2, bnd_so]
      rw [eb, bnd_so] at e1
      have e1' : some (enS m4 p (mk 1 20) p ee, (0 : Int32)) = some (m2, r) := e1
      injection e1' with e1'
      injection e1' with i1 i2
      refine Or.inr ⟨i2.symm, rfl, m4, a4, a5, i1.symm, ?_⟩
      have := a1.1.2.2
      rw [show (wi m4 (pq p 26) ((W : Nat) : Int)).1 (pq p 5) = m4.1 (pq p 5) from if_neg (pq_inj (by omega))] at this
      exact this
    · subst c1 c2
      rw [show decide ((1 : Int32) = 0) = false from rfl, br_fq] at e1
      have e1' : some (m4, (1 : Int32)) = some (m2, r) := e1
      injection e1' with e1'
      injection e1' with i1 i2
      subst i1
      exact Or.inl ⟨i2.symm, rfl, a4, a5, b2, U, a1, a2, c3, a6, a7⟩
end
end
section
set_option maxRecDepth 100000
section
variable {α β : Type} {b : Int → Nat → Nat → Prop} {N p k l U B W Y j a n kn : Nat} {m w m2 w2 m3 w3 : MS} {t x : Int64} {nb : Nat → Nat} {Hs Os : Nat → List Nat} {y : Option (Nat × Nat × Nat)} {Q : MS → α → MS → β → Prop} {K1 : MS → Option (MS × α)} {K2 : MS → Option (MS × β)} {v : Int}
theorem one_18 : fm_M_one N w (I v) (I 18) = bnd (fm_M_goTo N w (I v + 1)) (fun u7 _ => ck (inb (I v) (ln 25)) (bnd (fm_M_namesTo N u7 (u7.2.2.1 25 (I v).toNatClampNeg)) (fun u19 _ => some (u19, ())))) := rfl
theorem names_r {h z k : Nat} (hpp : p < 24) (h3 : F w 133 = ((p : Nat) : Int)) (h95 : A w 95 p = ((j + 1 : Nat) : Int)) (hj : j < 60) (h99 : A w 99 (60 * p + j) = ((z : Nat) : Int)) (h101 : A w 101 (60 * p + j) = ((h : Nat) : Int)) : PK (fun w2 (_ : Unit) => w2 = wa w 94 p ((z + h + k : Nat) : Int)) (fm_M_namesTo N w (I ((k : Nat) : Int))) := by
  unfold fm_M_namesTo fb_M_namesTo_0 fm_M_frame0 fb_M_frame0_0
  have ix : (I ((p : Nat) : Int) * 60 + I ((j + 1 : Nat) : Int) - 1).toNatClampNeg = 60 * p + j := by
    rw [show (60 : Int32) = I 60 from rfl, lit1q, I_mul, I_add, I_sub]
    exact tnI (n := 60 * p + j) (by omega) (by omega)
  rw [I_F' h3, tnI (n := p) rfl (by omega), I_A' h95]
  refine pk_bnd (pk_ck (fun _ => pk_some ?_))
  refine pk_ck (fun _ => pk_ck (fun _ => pk_ck (fun _ => pk_ltq ?_)))
  rw [I_F' h3, tnI (n := p) rfl (by omega), ix, I_A' h99, I_A' h101, show I ((z : Nat) : Int) + I ((h : Nat) : Int) = I ((z + h : Nat) : Int) from addN, show I ((z + h : Nat) : Int) + I ((k : Nat) : Int) = I ((z + h + k : Nat) : Int) from addN, wa_e]
  exact pk_some rfl
theorem FA_less (fa : FAs m w p j nb Hs Os) (hk : kn ≤ (Os j).length) (h21 : m2.1 (pq p 21) = m.1 (pq p 21)) (h24 : F m2 (pq p 24) = ((nb j + (Hs j).length + kn : Nat) : Int)) (hr : ∀ k, k = 30 ∨ k = 32 → m2.2.2.1 (pq p k) = m.2.2.1 (pq p k)) (h23 : m2.2.2.1 23 = m.2.2.1 23) (h95 : w2.2.2.1 95 p = w.2.2.1 95 p) (h2f : ∀ K r, 96 ≤ K → K ≤ 101 → r ≤ j → (K = 98 → r < j) → w2.2.2.1 K (60 * p + r) = w.2.2.1 K (60 * p + r)) (pr : ∀ K, PRr K → w2.2.2.1 K = w.2.2.1 K) (h34 : w2.2.2.2 34 = w.2.2.2 34) : FAs m2 w2 p j nb Hs (tkO Os j kn) := by
  obtain ⟨⟨f1, f2, f3⟩, f4, f5, f6⟩ := fa
  have e23 : A m2 23 = A m 23 := by funext i; show (m2.2.2.1 23 i).toInt = _; rw [h23]; rfl
  have am : ∀ K i, K = 30 ∨ K = 32 → A m2 (pq p K) i = A m (pq p K) i := fun K i h => by show (m2.2.2.1 (pq p K) i).toInt = _; rw [hr K h]; rfl
  have aw : ∀ K r, 96 ≤ K → K ≤ 101 → r ≤ j → (K = 98 → r < j) → A w2 K (60 * p + r) = A w K (60 * p + r) := fun K r h1 h2 h3 h4 => congrArg Int32.toInt (h2f K r h1 h2 h3 h4)
  have hP : ∀ K i, PRr K → A w2 K i = A w K i := fun K i c => by show (w2.2.2.1 K i).toInt = _; rw [pr K c]; rfl
  refine ⟨⟨?_, ?_, f3⟩, fun i hi => ?_, fun i hi => ?_, ?_⟩
  · show (m2.1 (pq p 21)).toInt = _
    rw [h21]; exact f1
  · show (w2.2.2.1 95 p).toInt = _
    rw [h95]; exact f2
  · obtain ⟨g1, g2, ⟨g3, g4⟩, g5, g6, g7⟩ := f4 i hi
    refine ⟨by rw [am 30 _ (by omega), aw 96 i (by omega) (by omega) hi (by omega)]; exact g1, ?_, ⟨by rw [am 30 _ (by omega)]; exact g3, by rw [aw 99 i (by omega) (by omega) hi (by omega)]; exact g4⟩, by rw [am 30 _ (by omega), aw 100 i (by omega) (by omega) hi (by omega)]; exact g5, by rw [aw 101 i (by omega) (by omega) hi (by omega)]; exact g6, fun i2 x2 hx => ?_⟩
    · rw [am 30 _ (by omega), aw 97 i (by omega) (by omega) hi (by omega)]
      rcases g2 with g2 | ⟨k2, t2, e1, e2, e3⟩
      · exact Or.inl g2
      · exact Or.inr ⟨k2, t2, e1, by rw [hP 44 _ (by unfold PRr; omega)]; exact e2, by rw [hP 8 _ (by unfold PRr; omega)]; exact e3⟩
    · rw [am 32 _ (by omega)]
      refine g7 i2 x2 ?_
      unfold tkO at hx
      by_cases ir : i = j
      · rw [if_pos ir] at hx
        subst ir
        rw [List.getElem?_append] at hx ⊢
        by_cases c2 : i2 < (Hs i).length
        · rw [if_pos c2] at hx ⊢; exact hx
        · rw [if_neg c2] at hx ⊢
          rw [List.getElem?_take] at hx
          by_cases c3 : i2 - (Hs i).length < kn
          · rw [if_pos c3] at hx; exact hx
          · rw [if_neg c3] at hx; cases hx
      · rw [if_neg ir] at hx; exact hx
  · obtain ⟨g1, a, n, g2, g3, f, g4⟩ := f5 i hi
    have ir : i ≠ j := by omega
    refine ⟨by unfold tkO; rw [if_neg ir]; exact g1, a, n, by rw [am 30 _ (by omega)]; exact g2, by rw [aw 98 i (by omega) (by omega) (by omega) (by omega)]; exact g3, f, ?_⟩
    unfold tkO
    rw [if_neg ir, ROs_eq pr, e23, h34]
    exact g4
  · rw [h24]
    unfold tkO
    rw [if_pos rfl, List.length_append, List.length_take]
    congr 1
    omega
theorem CT_less (ct : CTs m w p j nb Hs Os) (hct : ∀ nC c : Nat, F m (pq p 28) = ((nC : Nat) : Int) → c < nC → A w 105 (1600 * p + c) ≤ ((nb j + (Hs j).length + kn : Nat) : Int)) (hk : kn ≤ (Os j).length) (h28 : m2.1 (pq p 28) = m.1 (pq p 28)) (h37 : m2.2.2.1 (pq p 37) = m.2.2.1 (pq p 37)) (h23 : m2.2.2.1 23 = m.2.2.1 23) (h106 : w2.2.2.1 106 p = w.2.2.1 106 p) (hw : ∀ K, 102 ≤ K → K ≤ 105 → w2.2.2.1 K = w.2.2.1 K) (pr : ∀ K, PRr K → w2.2.2.1 K = w.2.2.1 K) (h34 : w2.2.2.2 34 = w.2.2.2 34) : CTs m2 w2 p j nb Hs (tkO Os j kn) := by
  obtain ⟨n', c1, c2, c3, c4, c5⟩ := ct
  have e23 : A m2 23 = A m 23 := by funext i; show (m2.2.2.1 23 i).toInt = _; rw [h23]; rfl
  have am : ∀ i, A m2 (pq p 37) i = A m (pq p 37) i := fun i => by show (m2.2.2.1 (pq p 37) i).toInt = _; rw [h37]; rfl
  have aw : ∀ K i, 102 ≤ K → K ≤ 105 → A w2 K i = A w K i := fun K i h1 h2 => by show (w2.2.2.1 K i).toInt = _; rw [hw K h1 h2]; rfl
  have hP : ∀ K i, PRr K → A w2 K i = A w K i := fun K i c => by show (w2.2.2.1 K i).toInt = _; rw [pr K c]; rfl
  refine ⟨n', ?_, ?_, c3, fun c hc => ?_, fun c hc => ?_⟩
  · show (m2.1 (pq p 28)).toInt = _
    rw [h28]; exact c1
  · show (w2.2.2.1 106 p).toInt = _
    rw [h106]; exact c2
  · rw [aw 102 _ (by omega) (by omega), aw 102 _ (by omega) (by omega), aw 105 _ (by omega) (by omega), aw 105 _ (by omega) (by omega)]
    exact c4 c hc
  · obtain ⟨r', k', a, nd2, nn2, s1, s2, s3, s4, s5, s6, s7, s8, s9, s10, f, s11⟩ := c5 c hc
    have m2' := hct n' c c1 hc
    rw [s5] at m2'
    refine ⟨r', k', a, nd2, nn2, s1, by rw [am]; exact s2, by rw [aw 102 _ (by omega) (by omega)]; exact s3, by rw [am]; exact s4, by rw [aw 105 _ (by omega) (by omega)]; exact s5, ?_, by rw [am, aw 104 _ (by omega) (by omega)]; exact s7, by rw [am]; exact s8, by rw [aw 103 _ (by omega) (by omega)]; exact s9, by rw [hP 25 _ (by unfold PRr; omega)]; exact s10, f, ?_⟩
    · unfold tkO
      by_cases e : r' = j
      · subst e
        rw [if_pos rfl, List.length_take]
        omega
      · rw [if_neg e]; exact s6
    · rw [ROs_eq pr, e23, h34]
      unfold tkO
      by_cases e : r' = j
      · subst e
        rw [if_pos rfl, List.take_take, Nat.min_eq_left (by omega)]
        exact s11
      · rw [if_neg e]; exact s11
theorem tkO_j : tkO Os j kn j = (Os j).take kn := if_pos rfl
theorem op_forget (hpp : p < 24) (pl : PLs b p m w U B W Y) (ru : RUs m w p j nb Hs Os none a n) (hB : B ≤ 2500) (ha : a + 2 < 24000) (hn : n < 100000) (hk : kn ≤ (Os j).length) (ht : A m 23 (a + 1) = (((Os j).length - kn : Nat) : Int)) (hd : A w 25 n = ((kn : Nat) : Int)) (hct : ∀ nC c : Nat, F m (pq p 28) = ((nC : Nat) : Int) → c < nC → A w 105 (1600 * p + c) ≤ ((nb j + (Hs j).length + kn : Nat) : Int)) (cr : ∃ f, CRs (A m 23) (ROs w) (w.2.2.2 34) f none (a + 2) (n + 1) (Hs j) ((Os j).take kn))
    (kk : ∀ m3 w3, PLs b p m3 w3 U (nb j + (Hs j).length + kn) W Y → RUs m3 w3 p j nb Hs (tkO Os j kn) none (a + 2) (n + 1) → GGm p m m3 → GGw p w w3 → (SCs p m w → SCs p m3 w3) → PP Q (K1 m3) (K2 w3)) : PP Q (bnd (hm_Ma_value N m p (I 16)) (fun u _ => K1 u)) (bnd (fm_M_one N w (I ((n : Nat) : Int)) (I 18)) (fun u _ => K2 u)) := by
  obtain ⟨⟨fa, ct⟩, ⟨r2, r3⟩, -, ⟨r5, r6⟩, r7, ⟨r8, r9, r10⟩, r11, r12, r13⟩ := id ru
  have hj : j < 60 := fa.1.2.2
  have fl := fa.2.1 j (Nat.le_refl _)
  have eB : B = nb j + (Hs j).length + (Os j).length := by
    have := fa.2.2.2
    rw [pl.2.1.1, List.length_append] at this
    omega
  have eB2 : B - ((Os j).length - kn) = nb j + (Hs j).length + kn := by omega
  rw [val16, I_F' r2, show I ((a : Nat) : Int) + 1 = I ((a + 1 : Nat) : Int) from addN, Co_e (k := a + 1) rfl (by omega), bnd_so, ht, forgetc_e (B := B) (k := (Os j).length - kn) pl.2.1.1 rfl (by omega), bnd_so, eB2]
  have e5 : F (wi m (pq p 24) ((nb j + (Hs j).length + kn : Nat) : Int)) 1105 = ((a : Nat) : Int) := by rw [wi_ne (pq_n (by omega))]; exact r2
  rw [I_F' e5, show I ((a : Nat) : Int) + 2 = I ((a + 2 : Nat) : Int) from addN, wi_e]
  show PP Q (K1 (wi (wi m (pq p 24) ((nb j + (Hs j).length + kn : Nat) : Int)) 1105 ((a + 2 : Nat) : Int))) _
  rw [one_18, show I ((n : Nat) : Int) + 1 = I ((n + 1 : Nat) : Int) from addN, bb_e]
  refine r_bnd (pk_mo (goto_r (N := N) (n := ((n + 1 : Nat) : Int)) hpp r11 fa.1.2.1 hj) (fun w2 _ h => ?_))
  subst h
  have aw : ∀ K i, K ≠ 98 → A (wa w 98 (60 * p + j) ((n + 1 : Nat) : Int)) K i = A w K i := fun K i h => by rw [wa_rne h]
  refine rb_ck (fun _ => ?_)
  rw [tnI (n := n) rfl (by omega), I_A' ((aw 25 n (by omega)).trans hd), bb_e]
  refine r_bnd (pk_mo (names_r (N := N) (w := wa w 98 (60 * p + j) ((n + 1 : Nat) : Int)) (k := kn) hpp r11 ((aw 95 p (by omega)).trans fa.1.2.1) hj ((aw 99 _ (by omega)).trans fl.2.2.1.2) ((aw 101 _ (by omega)).trans fl.2.2.2.2.1)) (fun w3 _ h => ?_))
  subst h
  rw [bnd_so]
  have gg : GGw p w (wa (wa w 98 (60 * p + j) ((n + 1 : Nat) : Int)) 94 p ((nb j + (Hs j).length + kn : Nat) : Int)) := GGw.tr (GGw_fg FGw.goto hj) (GGw_own (Or.inl ⟨by omega, rfl⟩))
  have fr : FR [] [] [94, 98] [] w (wa (wa w 98 (60 * p + j) ((n + 1 : Nat) : Int)) 94 p ((nb j + (Hs j).length + kn : Nat) : Int)) := FR.wa (FR.wa FR.rf (by simp)) (by simp)
  have f3 : GGm p m (wi (wi m (pq p 24) ((nb j + (Hs j).length + kn : Nat) : Int)) 1105 ((a + 2 : Nat) : Int)) := GGm.tr (GGm_own (by omega)) (GGm_reg (by omega))
  have i1 : ∀ k, k < 100 → k ≠ 24 → (wi (wi m (pq p 24) ((nb j + (Hs j).length + kn : Nat) : Int)) 1105 ((a + 2 : Nat) : Int)).1 (pq p k) = m.1 (pq p k) := fun k h1 h2 => (if_neg (fun c => pq_n (by omega) c.symm)).trans (if_neg (pq_inj h2))
  have fm : ∀ k, 1106 ≤ k → k < 1120 → (wi (wi m (pq p 24) ((nb j + (Hs j).length + kn : Nat) : Int)) 1105 ((a + 2 : Nat) : Int)).1 k = m.1 k := fun k h1 h2 => (if_neg (by omega)).trans (if_neg (pq_n (by omega)))
  have h98 : A (wa (wa w 98 (60 * p + j) ((n + 1 : Nat) : Int)) 94 p ((nb j + (Hs j).length + kn : Nat) : Int)) 98 (60 * p + j) = ((n + 1 : Nat) : Int) := by rw [wa_rne (by omega), wa_sm (by omega) (by omega)]
  have e24 : F (wi (wi m (pq p 24) ((nb j + (Hs j).length + kn : Nat) : Int)) 1105 ((a + 2 : Nat) : Int)) (pq p 24) = ((nb j + (Hs j).length + kn : Nat) : Int) := by rw [wi_ne (fun c => pq_n (by omega) c.symm), wi_sm (by omega) (by omega)]
  have fa2 := FA_less (m2 := wi (wi m (pq p 24) ((nb j + (Hs j).length + kn : Nat) : Int)) 1105 ((a + 2 : Nat) : Int)) (w2 := wa (wa w 98 (60 * p + j) ((n + 1 : Nat) : Int)) 94 p ((nb j + (Hs j).length + kn : Nat) : Int)) fa hk (i1 21 (by omega) (by omega)) e24 (fun _ _ => rfl) rfl (by rw [fr.2.2.1 95 (by simp)]) (fun K r c1 c2 c3 c4 => by
    by_cases c5 : K = 98
    · subst c5
      have := c4 rfl
      exact (wa_at (by omega)).trans (wa_at (by omega))
    · rw [fr.2.2.1 K (by simp; omega)]) gg.2.1.1 gg.2.1.2.1
  have ct2 := CT_less (m2 := wi (wi m (pq p 24) ((nb j + (Hs j).length + kn : Nat) : Int)) 1105 ((a + 2 : Nat) : Int)) (w2 := wa (wa w 98 (60 * p + j) ((n + 1 : Nat) : Int)) 94 p ((nb j + (Hs j).length + kn : Nat) : Int)) ct hct hk (i1 28 (by omega) (by omega)) rfl rfl (by rw [fr.2.2.1 106 (by simp)]) (fun K h1 h2 => fr.2.2.1 K (by simp; omega)) gg.2.1.1 gg.2.1.2.1
  have gd : GDr none (wi (wi m (pq p 24) ((nb j + (Hs j).length + kn : Nat) : Int)) 1105 ((a + 2 : Nat) : Int)) (wa (wa w 98 (60 * p + j) ((n + 1 : Nat) : Int)) 94 p ((nb j + (Hs j).length + kn : Nat) : Int)) p (nb j) (Hs j) (tkO Os j kn j) := by
    rcases r7 with ⟨_, c2, c3⟩ | ⟨_, _, _, c, _⟩
    · refine Or.inl ⟨rfl, ?_, c3⟩
      show ((wi (wi m (pq p 24) ((nb j + (Hs j).length + kn : Nat) : Int)) 1105 ((a + 2 : Nat) : Int)).1 1112).toInt = _
      rw [fm 1112 (by omega) (by omega)]
      exact c2
    · cases c
  refine kk _ _ ?_ ⟨⟨fa2, ct2⟩, ⟨by rw [wi_sm (by omega) (by omega)], h98⟩, ?_, ⟨?_, ?_⟩, gd, ⟨?_, ?_, r10⟩, r11, ?_, ?_⟩ f3 gg (fun s => SC_ow s (fun k hk => i1 k (by omega) (by omega)) rfl (fun K h1 h2 => fr.2.2.1 K (by simp; omega)))
  · have pl2 : PLs b p m w U (nb j + (Hs j).length + kn + ((Os j).length - kn)) W Y := by
      rw [show nb j + (Hs j).length + kn + ((Os j).length - kn) = B by omega]
      exact pl
    exact PLs_cg (PLs_pc (z := ((a + 2 : Nat) : Int)) (PLs_forget pl2 (by omega))) (fun _ _ => rfl) (fun _ _ => rfl) (fun _ _ => rfl) (fun _ _ => rfl) (fun _ _ => rfl) (fun k hk => by
      by_cases c : k = 94
      · subst c
        rw [wa_s1, wa_s1]
      · rw [wa_at (by omega), wa_at (by simp at hk; omega), wa_at (by omega)]) (fun _ _ => rfl) (fun _ _ => rfl) (fun _ _ => rfl) (fun _ _ => rfl)
  · rw [tkO_j, ROs_eq gg.2.1.1]
    exact cr
  · show ((wi (wi m (pq p 24) ((nb j + (Hs j).length + kn : Nat) : Int)) 1105 ((a + 2 : Nat) : Int)).1 (pq p 9)).toInt = _
    rw [i1 9 (by omega) (by omega)]; exact r5
  · rw [FR.A fr (by simp)]; exact r6
  · show ((wi (wi m (pq p 24) ((nb j + (Hs j).length + kn : Nat) : Int)) 1105 ((a + 2 : Nat) : Int)).1 1108).toInt = _
    rw [fm 1108 (by omega) (by omega)]; exact r8
  · show ((wi (wi m (pq p 24) ((nb j + (Hs j).length + kn : Nat) : Int)) 1105 ((a + 2 : Nat) : Int)).1 1109).toInt = _
    rw [fm 1109 (by omega) (by omega)]; exact r9
  · rw [fm 1106 (by omega) (by omega)]; exact r12
  · rw [fm 1107 (by omega) (by omega)]; exact r13
end
end
section
set_option maxRecDepth 100000
section
variable {C : Nat → Int} {R : Nat → Nat → Int} {J : Nat → Int64} {H O O2 : List Nat} {f g i p j q N M top cnt k : Nat} {m m2 m3 : MS} {t : Int64}
theorem up_le {c : Nat → Nat} {n : Nat} (h : ∀ k, k < n → c k ≤ c (k + 1)) : ∀ d k, k + d ≤ n → c k ≤ c (k + d) := by
  intro d
  induction d with
  | zero => intro k _; exact Nat.le_refl _
  | succ d ih =>
    intro k hk
    have h1 := ih k (by omega)
    have h2 := h (k + d) (by omega)
    rw [show k + (d + 1) = k + d + 1 by omega]
    omega
theorem PTs_lt : ∀ {f i p j : Nat} {O O2 : List Nat}, PTs C R J H f i p O j O2 → i < j
  | 0, _, _, _, _, _, z => z.elim
  | f + 1, i, p, j, O, O2, z => by
    rcases z with ⟨-, -, z, -⟩ | ⟨-, -, z, -⟩ | ⟨-, -, z, -⟩ | ⟨-, -, z, -⟩ | ⟨-, -, -, l, -, z⟩ | ⟨-, -, -, n, -, ci, cp, co, c0, cn, -, -, -, -, z⟩ | ⟨-, n, -, ci, cp, co, c0, -, -, z, e⟩
    · omega
    · omega
    · omega
    · omega
    · omega
    · have := up_le (c := ci) (n := n) (fun k hk => Nat.le_of_lt (PTs_lt (z k hk).1)) n 0 (by omega)
      rw [Nat.zero_add, cn, c0] at this
      omega
    · have h1 := up_le (c := ci) (n := n) (fun k hk => by have := PTs_lt (z k hk).2.1; omega) n 0 (by omega)
      rw [Nat.zero_add, c0] at h1
      rcases e with ⟨-, -, -, -, e, -⟩ | ⟨-, -, -, e⟩
      · omega
      · have := PTs_lt e
        omega
def FIx (q : Nat) (m m2 : MS) : Prop := FC q [] [] [] [24, 42, 43] [] [32] [33] m m2
theorem FIx.rf : FIx q m m := FC.rf
theorem FIx.tr (a : FIx q m m2) (c : FIx q m2 m3) : FIx q m m3 := FC.tr a c
theorem FIx.st {y : Nat} {z : Int64} : FIx q m (wj m 44 y z) := FC.J_g FC.rf (by simp)
end
end
section
set_option maxRecDepth 100000
def RUb (m w : MS) (p j : Nat) (nb : Nat → Nat) (Hs Os : Nat → List Nat) (y : Option (Nat × Nat × Nat)) : Prop :=
  (FAs m w p j nb Hs Os ∧ CTs m w p j nb Hs Os) ∧ (F m (pq p 9) = 0 ∧ A w 109 p = 0) ∧ GDr y m w p (nb j) (Hs j) (Os j) ∧ (F m 1108 = 0 ∧ F m 1109 = 0 ∧ F w 151 = 0) ∧ F w 133 = ((p : Nat) : Int) ∧ m.1 1106 = w.1 165 ∧ m.1 1107 = w.1 164
section
variable {p j a n a2 n2 c r B0 W0 k d : Nat} {m w m2 w2 m3 w3 : MS} {nb : Nat → Nat} {Hs Os : Nat → List Nat} {y : Option (Nat × Nat × Nat)}
theorem RUs_mk (r1 : FAs m w p j nb Hs Os ∧ CTs m w p j nb Hs Os) (r5 : F m (pq p 9) = 0) (r6 : A w 109 p = 0) (r7 : GDr y m w p (nb j) (Hs j) (Os j)) (r8 : F m 1108 = 0) (r9 : F m 1109 = 0) (r10 : F w 151 = 0) (r11 : F w 133 = ((p : Nat) : Int)) (r12 : m.1 1106 = w.1 165) (r13 : m.1 1107 = w.1 164) (f : FGm p m m2) (g : FGw p j w w2) (h1 : F m2 1105 = ((a2 : Nat) : Int)) (h2 : A w2 98 (60 * p + j) = ((n2 : Nat) : Int)) (c : ∃ f, CRs (A m 23) (ROs w) (w.2.2.2 34) f y a2 n2 (Hs j) (Os j)) : RUs m2 w2 p j nb Hs Os y a2 n2 := by
  obtain ⟨g1, g2, g3, -⟩ := g
  have hj : j < 60 := r1.1.1.2.2
  have ai : ∀ {x y : Int32}, x.toInt = y.toInt → x = y := fun h => Int32.toInt_inj.mp h
  have i1 : ∀ k, k < 100 → k ≠ 4 → k ≠ 5 → k ≠ 26 → k ≠ 45 → m2.1 (pq p k) = m.1 (pq p k) := fun k h0 h1 h2 h3 h4 => f.1 _ (by
    simp only [List.mem_cons, List.not_mem_nil, or_false]
    intro c
    rcases c with c | c | c | c | c
    · exact pq_inj h1 c
    · exact pq_inj h2 c
    · exact pq_inj h3 c
    · exact pq_inj h4 c
    · exact pq_n (by omega) c.symm)
  have fm : ∀ k, 1106 ≤ k → k < 1120 → m2.1 k = m.1 k := fun k c1 c2 => f.1 k (by simp; unfold pq; omega)
  have fF : ∀ k, 1106 ≤ k → k < 1120 → F m2 k = F m k := fun k c1 c2 => congrArg Int32.toInt (fm k c1 c2)
  have fw : ∀ k, k = 133 ∨ (151 ≤ k ∧ k ≤ 165) → w2.1 k = w.1 k := fun k c => g1.1 k (by simp; omega)
  have wF : ∀ k, k = 133 ∨ (151 ≤ k ∧ k ≤ 165) → F w2 k = F w k := fun k c => congrArg Int32.toInt (fw k c)
  have h23 : A m2 23 = A m 23 := by funext i; exact FR.A f (by simp)
  have pr : ∀ K, PRr K → w2.2.2.1 K = w.2.2.1 K := fun K c => g1.2.2.1 K (by unfold PRr at c; simp; omega)
  have h34 : w2.2.2.2 34 = w.2.2.2 34 := g1.2.2.2 34 (by simp)
  refine ⟨FC_w r1 (fun k c => i1 k (by omega) (by omega) (by omega) (by omega) (by omega)) (fun k c => f.2.2.1 _ (by simp)) (f.2.2.1 23 (by simp)) (fun K c => by rw [g1.2.2.1 K (by simp; omega)]) (fun K r c1 c2 c3 c4 => ?_) (fun K c c1 c2 c3 => by rw [g1.2.2.1 K (by simp; omega)]) pr h34, ⟨h1, h2⟩, by rw [h23, ROs_eq pr, h34]; exact c, ⟨?_, ?_⟩, GD_w r7 (i1 8 (by omega) (by omega) (by omega) (by omega) (by omega)) (f.2.1 _ (by simp)) (by rw [g1.2.2.2 111 (by simp)]) fm fw (f.2.2.1 23 (by simp)) pr h34, ⟨by rw [fF 1108 (by omega) (by omega)]; exact r8, by rw [fF 1109 (by omega) (by omega)]; exact r9, by rw [wF 151 (by omega)]; exact r10⟩, by rw [wF 133 (by omega)]; exact r11, by rw [fm 1106 (by omega) (by omega), fw 165 (by omega)]; exact r12, by rw [fm 1107 (by omega) (by omega), fw 164 (by omega)]; exact r13⟩
  · by_cases c5 : K = 98
    · subst c5
      exact ai (g3 _ (by have := c4 rfl; omega))
    · rw [g1.2.2.1 K (by simp; omega)]
  · show (m2.1 (pq p 9)).toInt = _
    rw [i1 9 (by omega) (by omega) (by omega) (by omega) (by omega)]
    exact r5
  · rw [FR.A g1 (by simp)]
    exact r6
theorem unS_1 (h : d < 2000) : (unS m p c r B0 W0).1 d = m.1 d := by
  show (if d = pq p 26 then _ else if d = pq p 24 then _ else if d = pq p 21 then _ else if d = pq p 28 then _ else m.1 d) = _
  rw [if_neg (pq_n h), if_neg (pq_n h), if_neg (pq_n h), if_neg (pq_n h)]
theorem unS_q (h1 : d ≠ 21) (h2 : d ≠ 24) (h3 : d ≠ 26) (h4 : d ≠ 28) : (unS m p c r B0 W0).1 (pq p d) = m.1 (pq p d) := by
  show (if pq p d = pq p 26 then _ else if pq p d = pq p 24 then _ else if pq p d = pq p 21 then _ else if pq p d = pq p 28 then _ else m.1 (pq p d)) = _
  rw [if_neg (pq_inj h3), if_neg (pq_inj h2), if_neg (pq_inj h1), if_neg (pq_inj h4)]
theorem unR_a {K i : Nat} (h1 : K ≠ 92) (h2 : K ≠ 94) (h3 : K ≠ 95) (h4 : K ≠ 106) : (unR w p c r B0 W0).2.2.1 K i = w.2.2.1 K i := ((wa_at (fun c => h2 c.1)).trans (wa_at (fun c => h1 c.1))).trans ((wa_at (fun c => h3 c.1)).trans (wa_at (fun c => h4 c.1)))
theorem GGm_un : GGm p m (unS m p c r B0 W0) := GGm.tr (GGm.tr (GGm.tr (GGm_own (by omega)) (GGm_own (by omega))) (GGm_own (by omega))) (GGm_own (by omega))
theorem GGw_un : GGw p w (unR w p c r B0 W0) := GGw.tr (GGw.tr (GGw.tr (GGw_own (Or.inl ⟨by omega, rfl⟩)) (GGw_own (Or.inl ⟨by omega, rfl⟩))) (GGw_own (Or.inl ⟨by omega, rfl⟩))) (GGw_own (Or.inl ⟨by omega, rfl⟩))
theorem SC_un (s : SCs p m w) : SCs p (unS m p c r B0 W0) (unR w p c r B0 W0) := SC_ow s (fun k hk => unS_q (by omega) (by omega) (by omega) (by omega)) rfl (fun K h1 h2 => by funext i; exact unR_a (by omega) (by omega) (by omega) (by omega))
theorem RUs_fall (ru : RUb m w p j nb Hs Os none) (h28 : F m (pq p 28) = ((c + 1 : Nat) : Int)) (hr : r ≤ j) (hk : k ≤ (Os r).length) (q1 : A w 102 (1600 * p + c) = ((r : Nat) : Int)) (q2 : A w 105 (1600 * p + c) = ((nb r + (Hs r).length + k : Nat) : Int)) (f : FGm p (unS m p c r (nb r + (Hs r).length + k) W0) m3) (g : FGw p r (unR w p c r (nb r + (Hs r).length + k) W0) w3) (h1 : F m3 1105 = ((a2 : Nat) : Int)) (h2 : A w3 98 (60 * p + r) = ((n2 : Nat) : Int)) (cr : ∃ f, CRs (A m 23) (ROs w) (w.2.2.2 34) f none a2 n2 (Hs r) ((Os r).take k)) : RUs m3 w3 p r nb Hs (tkO Os r k) none a2 n2 := by
  obtain ⟨⟨fa, ct⟩, ⟨r5, r6⟩, r7, ⟨r8, r9, r10⟩, r11, r12, r13⟩ := ru
  have pr : ∀ K, PRr K → (unR w p c r (nb r + (Hs r).length + k) W0).2.2.1 K = w.2.2.1 K := fun K h => by funext i; exact unR_a (by unfold PRr at h; omega) (by unfold PRr at h; omega) (by unfold PRr at h; omega) (by unfold PRr at h; omega)
  have u1 : ∀ d, d < 2000 → F (unS m p c r (nb r + (Hs r).length + k) W0) d = F m d := fun d h => congrArg Int32.toInt (unS_1 h)
  refine RUs_mk ⟨FA_fall fa hr hk, CT_fall ct h28 hr q1 q2 hk⟩ ?_ ?_ ?_ (by rw [u1 1108 (by omega)]; exact r8) (by rw [u1 1109 (by omega)]; exact r9) r10 r11 (by rw [unS_1 (by omega)]; exact r12) (by rw [unS_1 (by omega)]; exact r13) f g h1 h2 ?_
  · show ((unS m p c r (nb r + (Hs r).length + k) W0).1 (pq p 9)).toInt = _
    rw [unS_q (by omega) (by omega) (by omega) (by omega)]; exact r5
  · show ((unR w p c r (nb r + (Hs r).length + k) W0).2.2.1 109 p).toInt = _
    rw [unR_a (by omega) (by omega) (by omega) (by omega)]; exact r6
  · rcases r7 with ⟨_, c2, c3⟩ | ⟨_, _, _, c, _⟩
    · exact Or.inl ⟨rfl, by rw [u1 1112 (by omega)]; exact c2, c3⟩
    · cases c
  · rw [ROs_eq pr]
    unfold tkO
    rw [if_pos rfl]
    exact cr
end
section
variable {α β : Type} {b : Int → Nat → Nat → Prop} {N p U B W Wc Y j a n c r B0 W0 k a0 nd nn ee ee' l : Nat} {m w m2 w2 : MS} {t x : Int64} {nb : Nat → Nat} {Hs Os : Nat → List Nat} {Q : MS → α → MS → β → Prop} {D : Option (MS × α)} {K : MS → Unit → Option (MS × β)} {K1 : MS → Option (MS × α)} {K2 : MS → Option (MS × β)} {S : SG_M_error} {ow kd ow' kd' : Nat → Nat} {Fv Fv' : Int64 → Int64 → Prop} {P P' : Int64 → Prop}
theorem go205 (hpp : p < 24) (hc : c < 1600) (h103 : A w 103 (1600 * p + c) = ((nd : Nat) : Int)) (hnd : nd < 2147483648) (h25 : A w 25 nd = ((nn : Nat) : Int)) (h3 : F w 133 = ((p : Nat) : Int)) (h95 : A w 95 p = ((r + 1 : Nat) : Int)) (hr : r < 60) (h : PP Q D (K (wa w 98 (60 * p + r) ((nn : Nat) : Int)) ())) : PP Q D (bnd (fb_M_goesUp_205 N S () w (I ((1600 * p + c : Nat) : Int))) K) := by
  unfold fb_M_goesUp_205
  refine rb_ck (fun _ => rb_ck (fun _ => ?_))
  rw [tnI (n := 1600 * p + c) rfl (by omega), I_A' h103, tnI (n := nd) rfl (by omega), I_A' h25]
  refine rb_bnd (pk_mo (goto_r (N := N) (n := ((nn : Nat) : Int)) hpp h3 h95 hr) (fun w2 _ e => ?_))
  subst e
  exact h
theorem throw_c (hpp : p < 24) (pl : PLs b p (wi m (pq p 26) ((W : Nat) : Int)) w U B W Y) (ru : RUb m w p j nb Hs Os none) (h28 : F m (pq p 28) = ((c + 1 : Nat) : Int)) (hc : c < 1600) (hW0 : A w 104 (1600 * p + c) = ((W0 : Nat) : Int)) (hW : W0 ≤ W) (bd : B ≤ 2500 ∧ W < 46000) (hl : F m (pq p 45) = ((l : Nat) : Int)) (hl2 : W0 ≤ l ∧ l ≤ 1000000) (rt : RTb b (m.2.1 1110) x) (hnd : ∀ nd : Nat, A w 103 (1600 * p + c) = ((nd : Nat) : Int) → nd < 2147483648)
    (kk : ∀ r k a0 nn m3 w3, PLs b p m3 w3 U (nb r + (Hs r).length + k) (W0 + 1) Y → RUs m3 w3 p r nb Hs (tkO Os r k) none a0 nn → GGm p m m3 → GGw p w w3 → (SCs p m w → SCs p m3 w3) → PP Q (K1 m3) (K2 w3)) : PP Q (bnd (hb_Ma_raise_65 N () m p (I 3)) (fun u _ => K1 u)) (bnd (fm_M_goesUp N S w (I 2) x) (fun u _ => K2 u)) := by
  obtain ⟨⟨fa, ct⟩, ⟨r5, r6⟩, r7, ⟨r8, r9, r10⟩, r11, r12, r13⟩ := id ru
  have h152 : F w 152 = 0 := by
    rcases r7 with ⟨_, _, c3⟩ | ⟨_, _, _, c, _⟩
    · exact c3
    · cases c
  have h106 : A w 106 p = ((c + 1 : Nat) : Int) := by
    obtain ⟨n', c1, c2, -⟩ := ct
    rw [c2, ← c1]; exact h28
  obtain ⟨r, k, a0, nd, nn, s1, s2, s3, s4, s5, s6, s7, s8, s9, s10, s11⟩ := CT_last ct h28
  have hj : j < 60 := fa.1.2.2
  have hB : nb r + (Hs r).length + k ≤ B := by
    have h1 := nb_le fa (j - r) r (by omega)
    have h2 := fa.2.2.2
    have h3 := pl.2.1.1
    rw [wi_ne (pq_inj (by omega)), h2, List.length_append] at h3
    omega
  have a024 := A_r m (pq p 37) (4 * c + 3)
  rw [s8] at a024
  unfold hb_Ma_raise_65
  rw [I_F' h28, lit0q, decE (by omega) (by omega) (by omega) (by omega), decide_eq_false (by omega), br_fq, bb_e]
  refine l_bnd (pk_mo (unwind_m (N := N) (r := r) (B0 := nb r + (Hs r).length + k) (W0 := W0) (a0 := a0) h28 (by omega) s2 s4 (by rw [s7]; exact hW0) s8) (fun m2 z e => ?_))
  obtain ⟨rfl, rfl⟩ := e
  rw [wi_e]
  refine goes_c (r := r) (B0 := nb r + (Hs r).length + k) (W0 := W0) hpp h152 r11 h106 hc s3 (by omega) s5 hW0 ?_
  rw [show decide (I 2 = 2) = true from rfl, br_tq, bb_e]
  show PP Q (bnd (bnd (hm_Fr_push N (wi (unS m p c r (nb r + (Hs r).length + k) W0) 1105 ((a0 : Nat) : Int)) p (m.2.1 1110)) (fun u19 r19 => br (decide (I 3 = 3)) (hb_Ma_raise_172 N () u19 p) (br (decide (I 3 = 1)) (hb_Ma_raise_168 N () u19 p 7) (hb_Ma_raise_168 N () u19 p 8)))) (fun u _ => K1 u)) _
  rw [show decide (I 3 = (3 : Int32)) = true from rfl, bb_e]
  have fS : PLs b p (unS m p c r (nb r + (Hs r).length + k) W0) (unR w p c r (nb r + (Hs r).length + k) W0) U (nb r + (Hs r).length + k) W0 Y := PL_fall pl hB hW ⟨by omega, by omega⟩
  have fS2 := PLs_pc (z := ((a0 : Nat) : Int)) fS
  have e45 : F (wi (unS m p c r (nb r + (Hs r).length + k) W0) 1105 ((a0 : Nat) : Int)) (pq p 45) = ((l : Nat) : Int) := by
    rw [wi_ne (fun c => pq_n (by omega) c.symm)]
    show ((unS m p c r (nb r + (Hs r).length + k) W0).1 (pq p 45)).toInt = _
    rw [unS_q (by omega) (by omega) (by omega) (by omega)]; exact hl
  refine l_bnd (pk_mo (push_m (N := N) (t := m.2.1 1110) fS2.2.2.1.1 e45 hl2.1 hl2.2) (fun m3 _ h => ?_))
  obtain ⟨h1, h2, h3⟩ := h
  show PP Q (K1 m3) _
  have u133 : F (unR w p c r (nb r + (Hs r).length + k) W0) 133 = ((p : Nat) : Int) := r11
  refine r_bnd (pk_mo (put_r (N := N) (x := x) hpp u133 fS2.2.2.1.2.1 (by omega)) (fun w3 _ h => ?_))
  subst h
  have pl3 := PLs_push fS2 rt h1 h2 h3
  have aw : ∀ K i, K ≠ 92 → A (wa (wj (unR w p c r (nb r + (Hs r).length + k) W0) 91 (46000 * p + W0) x) 92 p ((W0 + 1 : Nat) : Int)) K i = A (unR w p c r (nb r + (Hs r).length + k) W0) K i := fun K i h => by rw [wa_rne h]; rfl
  have fa2 := FA_fall (c := c) (W0 := W0) fa s1 s6
  refine go205 (nd := nd) (nn := nn) (r := r) hpp hc ?_ (hnd nd s9) ?_ u133 ((aw 95 p (by omega)).trans fa2.1.2.1) (by omega) ?_
  · rw [aw 103 _ (by omega)]
    show ((unR w p c r (nb r + (Hs r).length + k) W0).2.2.1 103 _).toInt = _
    rw [unR_a (by omega) (by omega) (by omega) (by omega)]; exact s9
  · rw [aw 25 _ (by omega)]
    show ((unR w p c r (nb r + (Hs r).length + k) W0).2.2.1 25 _).toInt = _
    rw [unR_a (by omega) (by omega) (by omega) (by omega)]; exact s10
  have f3 : FGm p (unS m p c r (nb r + (Hs r).length + k) W0) m3 := FGm.tr FGm.pc (FGm.push h1)
  have g3 : FGw p r (unR w p c r (nb r + (Hs r).length + k) W0) (wa (wa (wj (unR w p c r (nb r + (Hs r).length + k) W0) 91 (46000 * p + W0) x) 92 p ((W0 + 1 : Nat) : Int)) 98 (60 * p + r) ((nn : Nat) : Int)) := FGw.tr (FGw.put (by omega)) FGw.goto
  have nnr := A_r w 25 nd
  rw [s10] at nnr
  refine kk r k a0 nn _ _ (PLs_98 pl3) (RUs_fall ru h28 s1 s6 s3 s5 f3 g3 ?_ ?_ s11) (GGm.tr GGm_un (GGm_fg f3)) (GGw.tr GGw_un (GGw_fg g3 (by omega))) (fun s => SC_fg (SC_un s) f3 g3)
  · rw [FR.F h1 (by simp [pq_n]), wi_sm a024.1 a024.2]
  · rw [wa_sm nnr.1 nnr.2]
end
end
section
set_option maxRecDepth 100000
section
variable {b : Int → Nat → Nat → Prop} {N p j e e' : Nat} {m w m2 w2 : MS} {x : Int64} {z : Int}
theorem FGm_xr (f : XRm p m m2) : FGm p m m2 := FR.mo f (by simp) (by simp) (by simp) (by simp)
theorem FGm_pa (f : FR [pq p 4] [] [] [pq p 2] m m2) : FGm p m m2 := FR.mo f (by simp) (by simp) (by simp) (by simp)
theorem FGw_xr (h : XRr p w w2) : FGw p j w w2 := by
  obtain ⟨a1, a2, a3, a4, a5, a6⟩ := h
  exact ⟨FR.mo a1 (by simp) (by simp) (by simp) (by simp), fun k hk => ⟨(a2 k hk).1, (a2 k hk).2, FR.A a1 (by simp)⟩, fun k _ => FR.A a1 (by simp), a3, a4, a5, a6⟩
theorem FGw_hand : FGw p j w (wl (wi w 140 z) 139 x) := ⟨FR.wl (FR.wi FR.rf (by simp)) (by simp), fun _ _ => ⟨rfl, rfl, rfl⟩, fun _ _ => rfl, fun _ _ => rfl, fun _ _ => rfl, fun _ _ => rfl, fun _ _ => rfl⟩
theorem FGw_two (f : FR [] [] [89] [88] w w2) (h1 : ∀ r, r ≠ p → A w2 89 r = A w 89 r) (h2 : ∀ i, ¬ (500 * p ≤ i ∧ i < 500 * p + 500) → w2.2.2.2 88 i = w.2.2.2 88 i) : FGw p j w w2 := ⟨FR.mo f (by simp) (by simp) (by simp) (by simp), fun k hk => ⟨h1 k hk, by rw [f.2.2.1 90 (by simp)], FR.A f (by simp)⟩, fun k _ => FR.A f (by simp), h2, fun i _ => by rw [f.2.2.2 91 (by simp)], fun i _ => by rw [f.2.2.2 93 (by simp)], fun i _ => by rw [f.2.2.2 107 (by simp)]⟩
theorem ends_e (hpp : p < 24) (h3 : F w 133 = ((p : Nat) : Int)) (h9 : A w 109 p ≠ 3) (he : F w 150 = ((e : Nat) : Int)) (hl : e < 4000) : fm_M_ends N w (I z) x = some (wi (enR w p z ((p : Nat) : Int) x e) 151 1, ()) := by
  unfold fm_M_ends fb_M_ends_0
  rw [I_F' h3, willE_e (q := p) (wr := z) (o := ((p : Nat) : Int)) (t := x) (by omega) h9 he hl hpp, bnd_so, show (1 : Int32) = I 1 from rfl, wi_e]
  rfl
theorem noR_e (hpp : p < 24) (h3 : F w 133 = ((p : Nat) : Int)) (h9 : A w 109 p ≠ 3) (he : F w 150 = ((e : Nat) : Int)) (hl : e < 4000) : fm_M_noRoom N w = some (wi (enR w p 0 ((p : Nat) : Int) (mk 1 20) e) 151 1, ()) := by
  unfold fm_M_noRoom fb_M_noRoom_0
  rw [show (1 : Int32) = I 1 from rfl, show (20 : Int32) = I 20 from rfl, term_e, bnd_so, lit0q, ends_e hpp h3 h9 he hl, bnd_so]
end
section
variable {p c r B0 W0 : Nat} {m : MS}
theorem unS_28 (hc : c < 2000) : F (unS m p c r B0 W0) (pq p 28) = ((c : Nat) : Int) := by
  show (if pq p 28 = pq p 26 then _ else if pq p 28 = pq p 24 then _ else if pq p 28 = pq p 21 then _ else if pq p 28 = pq p 28 then I ((c : Nat) : Int) else _).toInt = _
  rw [if_neg (pq_inj (by omega)), if_neg (pq_inj (by omega)), if_neg (pq_inj (by omega)), if_pos rfl]
  exact I_ti (by omega) (by omega)
end
section
variable {α β : Type} {b : Int → Nat → Nat → Prop} {N p U B W Wc Y j a n c r B0 W0 k a0 nd nn ee ee' l : Nat} {m w m2 w2 : MS} {t x : Int64} {nb : Nat → Nat} {Hs Os : Nat → List Nat} {Q : MS → α → MS → β → Prop} {K1 : MS → Option (MS × α)} {K2 : MS → Option (MS × β)} {S : SG_M_error} {ow kd ow' kd' : Nat → Nat} {Fv Fv' : Int64 → Int64 → Prop} {P P' : Int64 → Prop} {how kn v : Int}
theorem err_c (hv : (how = 1 ∧ kn = 0 ∧ v = 7) ∨ (how = 2 ∧ kn = 1 ∧ v = 8)) (hpp : p < 24) (pl : PLs b p (wi m (pq p 26) ((W : Nat) : Int)) w U B W Y) (ru : RUb m w p j nb Hs Os none) (h28 : F m (pq p 28) = ((c + 1 : Nat) : Int)) (hc : c < 1600) (hW0 : A w 104 (1600 * p + c) = ((W0 : Nat) : Int)) (hW : W0 ≤ W ∧ W ≤ Wc) (bd : B ≤ 2500 ∧ W < 46000) (lb : LNB m p) (pt : PTQ m p U ow kd Fv P B Wc Y) (cx : CTX Fv P m) (xc : CX w p (hp w p) U ow' kd' Fv' P' W B Y) (g : GT U ow kd P (m.2.1 1110)) (g' : GT U ow' kd' P' x) (rt : RTb b (m.2.1 1110) x) (hnd : ∀ nd : Nat, A w 103 (1600 * p + c) = ((nd : Nat) : Int) → nd < 2147483648) (hee : F m 955 = ((ee : Nat) : Int) ∧ ee < 24) (hee' : F w 150 = ((ee' : Nat) : Int) ∧ ee' < 4000) (hN : 2200000 ≤ N)
    (kk : ∀ b3 U3 r k a0 nn m3 w3, PLs b3 p m3 w3 U3 (nb r + (Hs r).length + k) (W0 + 1) Y → RUs m3 w3 p r nb Hs (tkO Os r k) none a0 nn → GGm p m m3 → GGw p w w3 → (SCs p m w → SCs p m3 w3) → PP Q (K1 m3) (K2 w3))
    (ke : ∀ m3 w3, GGm p m m3 → GGw p w w3 → (SCs p m w → SCs p m3 w3) → m3.1 (pq p 5) = w3.2.2.1 90 p → PP Q (K1 (enS m3 p (mk 1 20) p ee)) (K2 (wi (enR w3 p 0 ((p : Nat) : Int) (mk 1 20) ee') 151 1))) : PP Q (bnd (hb_Ma_raise_65 N () m p (I how)) (fun u _ => K1 u)) (bnd (fm_M_goesUp N S w (I kn) x) (fun u _ => K2 u)) := by
  obtain ⟨⟨fa, ct⟩, ⟨r5, r6⟩, r7, ⟨r8, r9, r10⟩, r11, r12, r13⟩ := id ru
  have h152 : F w 152 = 0 := by
    rcases r7 with ⟨_, _, c3⟩ | ⟨_, _, _, c, _⟩
    · exact c3
    · cases c
  have h106 : A w 106 p = ((c + 1 : Nat) : Int) := by
    obtain ⟨n', c1, c2, -⟩ := ct
    rw [c2, ← c1]; exact h28
  obtain ⟨r, k, a0, nd, nn, s1, s2, s3, s4, s5, s6, s7, s8, s9, s10, s11⟩ := CT_last ct h28
  have hj : j < 60 := fa.1.2.2
  have hB : nb r + (Hs r).length + k ≤ B := by
    have h1 := nb_le fa (j - r) r (by omega)
    have h2 := fa.2.2.2
    have h3 := pl.2.1.1
    rw [wi_ne (pq_inj (by omega)), h2, List.length_append] at h3
    omega
  have a024 := A_r m (pq p 37) (4 * c + 3)
  rw [s8] at a024
  have bb := PTQ_b pt
  unfold hb_Ma_raise_65
  rw [I_F' h28, lit0q, decE (by omega) (by omega) (by omega) (by omega), decide_eq_false (by omega), br_fq, bb_e]
  refine l_bnd (pk_mo (unwind_m (N := N) (r := r) (B0 := nb r + (Hs r).length + k) (W0 := W0) (a0 := a0) h28 (by omega) s2 s4 (by rw [s7]; exact hW0) s8) (fun m2 z e => ?_))
  obtain ⟨rfl, rfl⟩ := e
  rw [wi_e]
  refine goes_c (r := r) (B0 := nb r + (Hs r).length + k) (W0 := W0) hpp h152 r11 h106 hc s3 (by omega) s5 hW0 ?_
  have fS : PLs b p (unS m p c r (nb r + (Hs r).length + k) W0) (unR w p c r (nb r + (Hs r).length + k) W0) U (nb r + (Hs r).length + k) W0 Y := PL_fall pl hB hW.1 ⟨by omega, by omega⟩
  have fS2 := PLs_pc (z := ((a0 : Nat) : Int)) fS
  have fa2 := FA_fall (c := c) (W0 := W0) fa s1 s6
  have pS : PTQ (wi (unS m p c r (nb r + (Hs r).length + k) W0) 1105 ((a0 : Nat) : Int)) p U ow kd Fv P (nb r + (Hs r).length + k) W0 Y := PTQ_same (PTQ_fall pt hB (by omega)) (fun k hk => if_neg (fun c => pq_n (by omega) c.symm)) (fun _ _ => rfl)
  have lS : LNB (wi (unS m p c r (nb r + (Hs r).length + k) W0) 1105 ((a0 : Nat) : Int)) p := LNB_28 lb (fun k hk => (if_neg (fun c => pq_n (by omega) c.symm)).trans (unS_q (by simp at hk; omega) (by simp at hk; omega) (by simp at hk; omega) (by simp at hk; omega))) (by
    have e28 : F (wi (unS m p c r (nb r + (Hs r).length + k) W0) 1105 ((a0 : Nat) : Int)) (pq p 28) = ((c : Nat) : Int) := by
      rw [wi_ne (fun c => pq_n (by omega) c.symm)]
      exact unS_28 (by omega)
    have := LNB_c lb
    rw [h28] at this
    rw [e28]
    omega)
  have hcl : ∀ u : MS, br (decide (I how = 3)) (hb_Ma_raise_172 N () u p) (br (decide (I how = 1)) (hb_Ma_raise_168 N () u p 7) (hb_Ma_raise_168 N () u p 8)) = bnd (hm_Ma_wrap N u p (I v)) (fun u1 _ => some (u1, ())) := fun u => by
    rcases hv with ⟨rfl, rfl, rfl⟩ | ⟨rfl, rfl, rfl⟩ <;> rfl
  have hrf : br (decide (I kn = 2)) (bnd (fm_M_put N (unR w p c r (nb r + (Hs r).length + k) W0) x) (fun u15 _ => fb_M_goesUp_205 N S () u15 (I ((1600 * p + c : Nat) : Int)))) (bnd (fm_M_hand N (unR w p c r (nb r + (Hs r).length + k) W0) (I ((p : Nat) : Int)) x) (fun u10 _ => bnd (fm_M_wants N u10 (u10.1 133) 3) (fun u11 r11 => br (decide (r11 = 0)) (bnd (fm_M_handNone N u11) (fun u13 _ => bnd (fm_M_noRoom N u13) (fun u14 _ => some (u14, ())))) (bnd (fm_M_handNone N u11) (fun u12 _ => br (decide (I kn = 0)) (fb_M_goesUp_197 N S () u12 (I ((1600 * p + c : Nat) : Int)) (u11.2.1 139) 7) (fb_M_goesUp_197 N S () u12 (I ((1600 * p + c : Nat) : Int)) (u11.2.1 139) 8)))))) = bnd (fm_M_wants N (wl (wi (unR w p c r (nb r + (Hs r).length + k) W0) 140 ((p : Nat) : Int)) 139 x) ((wl (wi (unR w p c r (nb r + (Hs r).length + k) W0) 140 ((p : Nat) : Int)) 139 x).1 133) 3) (fun u11 r11 => br (decide (r11 = 0)) (bnd (fm_M_noRoom N (wl (wi u11 140 (-1)) 139 (mk 6 0))) (fun u14 _ => some (u14, ()))) (fb_M_goesUp_197 N S () (wl (wi u11 140 (-1)) 139 (mk 6 0)) (I ((1600 * p + c : Nat) : Int)) (u11.2.1 139) (I v))) := by
    rcases hv with ⟨rfl, rfl, rfl⟩ | ⟨rfl, rfl, rfl⟩ <;> rfl
  rw [hrf]
  show PP Q (bnd (bnd (hm_Fr_push N (wi (unS m p c r (nb r + (Hs r).length + k) W0) 1105 ((a0 : Nat) : Int)) p (m.2.1 1110)) (fun u19 r19 => br (decide (I how = 3)) (hb_Ma_raise_172 N () u19 p) (br (decide (I how = 1)) (hb_Ma_raise_168 N () u19 p 7) (hb_Ma_raise_168 N () u19 p 8)))) (fun u _ => K1 u)) _
  rw [bb_e]
  obtain ⟨l, e45, lw, lm⟩ := pS.2.2.2.2.2.1
  refine l_bnd (pk_mo (pk_andq (push_m (N := N) (t := m.2.1 1110) fS2.2.2.1.1 e45 lw lm) (pk_ok (push_t (N := N) (t := m.2.1 1110) pS lS (by omega) g))) (fun m3 _ h => ?_))
  obtain ⟨⟨h1, h2, h3⟩, -, p3, -⟩ := h
  rw [hcl]
  unfold hm_Ma_wrap hb_Ma_wrap_0
  have i3 : ∀ d, d < 2000 → d ≠ 1105 → m3.1 d = m.1 d := fun d hd h5 => by
    rw [h1.1 d (by simp; unfold pq; omega), show (wi (unS m p c r (nb r + (Hs r).length + k) W0) 1105 ((a0 : Nat) : Int)).1 d = (unS m p c r (nb r + (Hs r).length + k) W0).1 d from if_neg h5, unS_1 hd]
  have q3 : ∀ d, d < 100 → d ≠ 21 → d ≠ 24 → d ≠ 26 → d ≠ 28 → d ≠ 45 → m3.1 (pq p d) = m.1 (pq p d) := fun d hd d1 d2 d3 d4 d5 => by
    rw [h1.1 _ (by
      simp only [List.mem_cons, List.not_mem_nil, or_false]
      intro z
      rcases z with z | z
      · exact pq_inj d3 z
      · exact pq_inj d5 z), show (wi (unS m p c r (nb r + (Hs r).length + k) W0) 1105 ((a0 : Nat) : Int)).1 (pq p d) = (unS m p c r (nb r + (Hs r).length + k) W0).1 (pq p d) from if_neg (fun c => pq_n (by omega) c.symm), unS_q d1 d2 d3 d4]
  have a3 : m3.2.2.1 = m.2.2.1 := by funext K; exact h1.2.2.1 K (by simp)
  have u133 : F (unR w p c r (nb r + (Hs r).length + k) W0) 133 = ((p : Nat) : Int) := r11
  have pl3 : PLs b p (wi m3 (pq p 26) ((W0 : Nat) : Int)) (unR w p c r (nb r + (Hs r).length + k) W0) U (nb r + (Hs r).length + k) W0 Y := by
    have jn : ∀ d, d ≠ 35 → m3.2.2.2 (pq p d) = m.2.2.2 (pq p d) := fun d hd => h1.2.2.2 _ (by simp; exact pq_inj hd)
    refine PLs_cg fS2 (fun d hd => ?_) (fun i _ => by show m3.2.2.2 (pq p 2) i = _; rw [jn 2 (by omega)]; rfl) (fun i _ => by show m3.2.2.2 (pq p 33) i = _; rw [jn 33 (by omega)]; rfl) (fun i hi => by show m3.2.2.2 (pq p 35) i = _; rw [h3 i (by omega), if_neg (by omega)]) (fun i _ => by show m3.2.2.2 (pq p 6) i = _; rw [jn 6 (by omega)]; rfl) (fun _ _ => rfl) (fun _ _ => rfl) (fun _ _ => rfl) (fun _ _ => rfl) (fun _ _ => rfl)
    by_cases d6 : d = 26
    · subst d6
      rw [I_F' fS2.2.2.1.1]
      exact if_pos rfl
    · rw [show (wi m3 (pq p 26) ((W0 : Nat) : Int)).1 (pq p d) = m3.1 (pq p d) from if_neg (pq_inj d6)]
      exact h1.1 _ (by
        simp only [List.mem_cons, List.not_mem_nil, or_false] at hd ⊢
        intro z
        rcases z with z | z
        · exact pq_inj d6 z
        · exact pq_inj (by omega) z)
  have rp := room_pe (N := N) (e := 1) (ee := ee) p3 (CTX_fr cx (i3 22 (by omega) (by omega)) (by rw [a3])) (CX_fall (c := c) (r := r) xc hB hW.1) pl3 (fun i c1 c2 => by
    have : i = W0 := by omega
    subst this
    rw [h3 i (Nat.le_refl _), if_pos rfl]
    exact rt) g' (by omega) (by omega) (by
    show (m3.1 (pq p 9)).toInt ≠ 3
    rw [q3 9 (by omega) (by omega) (by omega) (by omega) (by omega) (by omega)]
    have : (m.1 (pq p 9)).toInt = 0 := r5
    omega) ⟨by show (m3.1 955).toInt = _; rw [i3 955 (by omega) (by omega)]; exact hee.1, hee.2⟩ u133 hN
  rw [hand_e, bnd_so] at rp
  rw [bb_e, bb_e, bb_e]
  have f3 : FGm p (unS m p c r (nb r + (Hs r).length + k) W0) m3 := FGm.tr FGm.pc (FGm.push h1)
  refine pp_bb (pp_mo rp (fun m4 r4 w4 r5' q9 => ?_))
  rcases q9 with ⟨rfl, rfl, a4, a5, b2, U2, pl4, hx4, rm4, ⟨ow2, kd2, pt4⟩, -⟩ | ⟨rfl, rfl, m5, a4, a5, rfl, h5⟩
  · rw [show decide ((1 : Int32) = 0) = false from rfl, br_fq, br_fq]
    obtain ⟨l4, e1, e2, e3⟩ := pt4.2.2.2.2.2.1
    have be : hm_Fr_below N m4 p 0 = some (m4, m4.2.2.2 (pq p 35) W0) := by
      have := below_e (N := N) (x := 0) (k := 0) (W := W0 + 1) (l := l4) pt4.2.2.1.1 e1 e2 e3 rfl (by omega)
      rw [show W0 + 1 - 1 - 0 = W0 by omega] at this
      exact this
    have w133 : F (wl (wi w4 140 (-1)) 139 (mk 6 0)) 133 = ((p : Nat) : Int) := by
      rw [F_wl, wi_ne (by omega), FR.F a5.1 (by simp), F_wl, wi_ne (by omega)]
      exact r11
    rw [be, bnd_so]
    unfold fb_M_goesUp_197
    rw [bb_e, bb_e]
    have hU4 : F m4 (pq p 4) = ((U2 : Nat) : Int) := pt4.1.1
    have hu4 : A (wl (wi w4 140 (-1)) 139 (mk 6 0)) 89 p = ((U2 : Nat) : Int) := pl4.1.1.2.1
    refine pp_bb (pp_mo (pair_pp (N := N) (b := b2) (t := m4.2.2.2 (pq p 35) W0) (x := w4.2.1 139) (v := v) hpp w133 hU4 hu4 rm4 pl4.1.2.1 (hx4 W0 (Nat.le_refl _) (by omega)) ⟨by omega, by omega⟩) (fun m6 t6 w6 x6 q6 => ?_))
    obtain ⟨b3, is6, rt6, mo, ⟨u6, v6⟩, fm6, fw6, l6, l6'⟩ := q6
    have i6 : ∀ d, d ≠ 4 → m6.1 (pq p d) = m4.1 (pq p d) := fun d hd => fm6.1 _ (by simp; exact pq_inj hd)
    have e26 : F m6 (pq p 26) = ((W0 + 1 : Nat) : Int) := by
      show (m6.1 (pq p 26)).toInt = _
      rw [i6 26 (by omega)]; exact pt4.2.2.1.1
    unfold hm_Ma_answer hb_Ma_answer_0
    rw [show (1 : Int32) = I 1 from rfl, drop_e (W := W0 + 1) (k := 1) (x := 1) e26 rfl (by omega), bnd_so, Nat.add_sub_cancel, bb_e, bb_e, bb_e]
    have pl6 : PLs b3 p (wi m6 (pq p 26) ((W0 : Nat) : Int)) w6 (U2 + 3) (nb r + (Hs r).length + k) W0 Y := by
      refine PLs_new (PLs_h (o := -1) (t := mk 6 0) pl4) mo (fun d hd => ?_) (fun d hd => ?_) (fun K hK => by rw [fw6.2.2.1 K (by simp at hK ⊢; omega)]) (fun K hK => fw6.2.2.2 K (by simp at hK ⊢; omega)) ?_ v6 (by omega) is6
      · by_cases d6 : d = 26
        · subst d6
          show (if pq p 26 = pq p 26 then _ else _) = (if pq p 26 = pq p 26 then _ else _)
          rw [if_pos rfl, if_pos rfl]
        · show (if pq p d = pq p 26 then _ else m6.1 (pq p d)) = (if pq p d = pq p 26 then _ else m4.1 (pq p d))
          rw [if_neg (pq_inj d6), if_neg (pq_inj d6), i6 d (by simp at hd; omega)]
      · show m6.2.2.2 (pq p d) = m4.2.2.2 (pq p d)
        exact fm6.2.2.2 _ (by simp; exact pq_inj (by simp at hd; omega))
      · rw [wi_ne (pq_inj (by omega))]; exact u6
    have e45' : F (wi m6 (pq p 26) ((W0 : Nat) : Int)) (pq p 45) = ((l4 : Nat) : Int) := by
      rw [wi_ne (pq_inj (by omega))]
      show (m6.1 (pq p 45)).toInt = _
      rw [i6 45 (by omega)]; exact e1
    refine l_bnd (pk_mo (push_m (N := N) (t := t6) pl6.2.2.1.1 e45' (by omega) e3) (fun m8 _ h => ?_))
    obtain ⟨z1, z2, z3⟩ := h
    have w6' : F w6 133 = ((p : Nat) : Int) := by rw [FR.F fw6 (by simp)]; exact w133
    refine r_bnd (pk_mo (put_r (N := N) (x := x6) hpp w6' pl6.2.2.1.2.1 (by omega)) (fun w8 _ h => ?_))
    subst h
    have pl8 := PLs_push pl6 rt6 z1 z2 z3
    show PP Q (K1 m8) _
    have g6 : FGw p r (unR w p c r (nb r + (Hs r).length + k) W0) w6 := FGw.tr (FGw.tr (FGw.tr FGw_hand (FGw_xr a5)) FGw_hand) (FGw_two fw6 l6 l6')
    have g8 : FGw p r (unR w p c r (nb r + (Hs r).length + k) W0) (wa (wj w6 91 (46000 * p + W0) x6) 92 p ((W0 + 1 : Nat) : Int)) := FGw.tr g6 (FGw.put (by omega))
    have nnr := A_r w 25 nd
    rw [s10] at nnr
    have aw : ∀ K i, K ≠ 92 → K ≠ 89 → K ≠ 90 → K ≠ 98 → K ≠ 135 → K ≠ 142 → A (wa (wj w6 91 (46000 * p + W0) x6) 92 p ((W0 + 1 : Nat) : Int)) K i = A (unR w p c r (nb r + (Hs r).length + k) W0) K i := fun K i c1 c2 c3 c4 c5 c6 => FR.A g8.1 (by simp; omega)
    refine go205 (nd := nd) (nn := nn) (r := r) hpp hc ?_ (hnd nd s9) ?_ w6' ((aw 95 p (by omega) (by omega) (by omega) (by omega) (by omega) (by omega)).trans fa2.1.2.1) (by omega) ?_
    · rw [aw 103 _ (by omega) (by omega) (by omega) (by omega) (by omega) (by omega)]
      show ((unR w p c r (nb r + (Hs r).length + k) W0).2.2.1 103 _).toInt = _
      rw [unR_a (by omega) (by omega) (by omega) (by omega)]; exact s9
    · rw [aw 25 _ (by omega) (by omega) (by omega) (by omega) (by omega) (by omega)]
      show ((unR w p c r (nb r + (Hs r).length + k) W0).2.2.1 25 _).toInt = _
      rw [unR_a (by omega) (by omega) (by omega) (by omega)]; exact s10
    have f8 : FGm p (unS m p c r (nb r + (Hs r).length + k) W0) m8 := FGm.tr (FGm.tr (FGm.tr (FGm.tr f3 (FGm_xr a4)) (FGm_pa fm6)) FGm.drop) (FGm.push z1)
    have g9 := FGw.tr g8 (FGw.goto (v := ((nn : Nat) : Int)))
    refine kk b3 (U2 + 3) r k a0 nn _ _ (PLs_98 pl8) (RUs_fall ru h28 s1 s6 s3 s5 f8 g9 ?_ ?_ s11) (GGm.tr GGm_un (GGm_fg f8)) (GGw.tr GGw_un (GGw_fg g9 (by omega))) (fun s => SC_fg (SC_un s) f8 g9)
    · rw [FR.F z1 (by simp [pq_n]), wi_ne (pq_n (by omega)), FR.F fm6 (by simp [pq_n]), FR.F a4 (by simp [pq_n]), FR.F h1 (by simp [pq_n]), wi_sm a024.1 a024.2]
    · rw [wa_sm nnr.1 nnr.2]
  · rw [show decide ((0 : Int32) = 0) = true from rfl, br_tq, br_tq]
    show PP Q (K1 (enS m5 p (mk 1 20) p ee)) _
    have w133 : F (wl (wi w4 140 (-1)) 139 (mk 6 0)) 133 = ((p : Nat) : Int) := by
      rw [F_wl, wi_ne (by omega), FR.F a5.1 (by simp), F_wl, wi_ne (by omega)]
      exact r11
    have g4 : FGw p r (unR w p c r (nb r + (Hs r).length + k) W0) (wl (wi w4 140 (-1)) 139 (mk 6 0)) := FGw.tr (FGw.tr FGw_hand (FGw_xr a5)) FGw_hand
    have e109 : A (wl (wi w4 140 (-1)) 139 (mk 6 0)) 109 p ≠ 3 := by
      rw [FR.A g4.1 (by simp)]
      show ((unR w p c r (nb r + (Hs r).length + k) W0).2.2.1 109 p).toInt ≠ 3
      rw [unR_a (by omega) (by omega) (by omega) (by omega)]
      have : (w.2.2.1 109 p).toInt = 0 := r6
      omega
    have e150 : F (wl (wi w4 140 (-1)) 139 (mk 6 0)) 150 = ((ee' : Nat) : Int) := by
      rw [FR.F g4.1 (by simp)]
      exact hee'.1
    rw [noR_e hpp w133 e109 e150 hee'.2, bnd_so, bnd_so]
    have f5 : FGm p (unS m p c r (nb r + (Hs r).length + k) W0) m5 := FGm.tr f3 (FGm_xr a4)
    exact ke _ _ (GGm.tr GGm_un (GGm_fg f5)) (GGw.tr GGw_un (GGw_fg g4 (by omega))) (fun s => SC_fg (SC_un s) f5 g4) h5
end
end
section
set_option maxRecDepth 100000
section
variable {α β : Type} {b : Int → Nat → Nat → Prop} {N p PR U B W Wc Y ee ee' : Nat} {m w m1 : MS} {t x : Int64} {Q : MS → α → MS → β → Prop} {D : Option (MS × α)} {K : MS → Unit → Option (MS × β)} {K1 : MS → Option (MS × α)} {K2 : MS → Option (MS × β)} {S : SG_M_error} {ow kd ow' kd' : Nat → Nat} {Fv Fv' : Int64 → Int64 → Prop} {P P' : Int64 → Prop} {how kn wr : Int}
theorem goes_n (hpp : p < 24) (hv : (kn = 0 ∧ wr = 1) ∨ (kn = 1 ∧ wr = 0) ∨ (kn = 2 ∧ wr = 2)) (h152 : F w 152 = 0) (h3 : F w 133 = ((p : Nat) : Int)) (h106 : A w 106 p = 0) (h9 : A w 109 p ≠ 3) (he : F w 150 = ((ee' : Nat) : Int)) (hl : ee' < 4000) (h : PP Q D (K (wi (enR w p wr ((p : Nat) : Int) x ee') 151 1) ())) : PP Q D (bnd (fm_M_goesUp N S w (I kn) x) K) := by
  have e43 : ∀ z : Int, fb_M_goesUp_43 N S () w x (I z) = some (wi (enR w p z ((p : Nat) : Int) x ee') 151 1, ()) := fun z => by
    unfold fb_M_goesUp_43
    rw [ends_e hpp h3 h9 he hl, bnd_so]
  unfold fm_M_goesUp fb_M_goesUp_0
  rw [I_F' h152, show decide (I 0 = 0) = true from rfl, br_tq]
  refine rb_ck (fun _ => ?_)
  rw [I_F' h3, tnI (n := p) rfl (by omega), I_A' h106, show decide (I 0 = 0) = true from rfl, br_tq]
  rcases hv with ⟨rfl, rfl⟩ | ⟨rfl, rfl⟩ | ⟨rfl, rfl⟩
  · rw [show decide (I 0 = 0) = true from rfl, br_tq, show (1 : Int32) = I 1 from rfl, e43, bnd_so]
    exact h
  · rw [show decide (I 1 = (0 : Int32)) = false from rfl, br_fq, show decide (I 1 = (1 : Int32)) = true from rfl, br_tq, lit0q, e43, bnd_so]
    exact h
  · rw [show decide (I 2 = (0 : Int32)) = false from rfl, br_fq, show decide (I 2 = (1 : Int32)) = false from rfl, br_fq, show (2 : Int32) = I 2 from rfl, e43, bnd_so]
    exact h
theorem exit_n (hpp : p < 24) (hpr : p < PR) (pl : PLs b p (wi m (pq p 26) ((W : Nat) : Int)) w U B W Y) (h28 : F m (pq p 28) = 0) (h106 : A w 106 p = 0) (h152 : F w 152 = 0) (h133 : F w 133 = ((p : Nat) : Int)) (h9 : F m (pq p 9) ≠ 3 ∧ A w 109 p ≠ 3) (pt : PTQ m p U ow kd Fv P B Wc Y) (xc : CX w p (hp w p) U ow' kd' Fv' P' W B Y) (g : GT U ow kd P (m.2.1 1110)) (g' : GT U ow' kd' P' x) (rt : RTb b (m.2.1 1110) x) (hee : F m 955 = ((ee : Nat) : Int) ∧ ee < 24) (hee' : F w 150 = ((ee' : Nat) : Int) ∧ ee' < 4000)
    (ke : m.1 (pq p 5) = w.2.2.1 90 p → RQs Fv P Fv' P' PR (enS m p (m.2.1 1110) p ee) (enR w p 0 ((p : Nat) : Int) x ee') p 0 p x → PP Q (K1 (enS m p (m.2.1 1110) p ee)) (K2 (wi (enR w p 0 ((p : Nat) : Int) x ee') 151 1))) : PP Q (bnd (hb_Ma_raise_65 N () m p (I 2)) (fun u _ => K1 u)) (bnd (fm_M_goesUp N S w (I 1) x) (fun u _ => K2 u)) := by
  have hU := pt.1.2.1
  have h5 : m.1 (pq p 5) = w.2.2.1 90 p := by
    have := pl.1.2.2
    rw [show (wi m (pq p 26) ((W : Nat) : Int)).1 (pq p 5) = m.1 (pq p 5) from if_neg (pq_inj (by omega))] at this
    exact this
  unfold hb_Ma_raise_65 hb_Ma_raise_110
  rw [I_F' h28, show decide (I 0 = 0) = true from rfl, br_tq, show decide (I 2 = (2 : Int32)) = true from rfl, br_tq, endsW_e h9.1 hee.1 hee.2, bnd_so, bnd_so]
  refine goes_n (wr := 0) (ee' := ee') hpp (by omega) h152 h133 h106 h9.2 hee'.1 hee'.2 ?_
  exact ke h5 (RQ_own (B := B) (W := W) (Y := Y) hpr hpp pl.1.2.1 pt.1.2.2 xc pl.1.1.2.1 hU g g' rt)
theorem err_n {v : Nat} (hv : (how = 1 ∧ kn = 0 ∧ wr = 1 ∧ v = 7) ∨ (how = 3 ∧ kn = 2 ∧ wr = 2 ∧ v = 19)) (hpp : p < 24) (hpr : p < PR) (pl : PLs b p (wi m (pq p 26) ((W : Nat) : Int)) w U B W Y) (h28 : F m (pq p 28) = 0) (h106 : A w 106 p = 0) (h152 : F w 152 = 0) (h133 : F w 133 = ((p : Nat) : Int)) (h9 : F m (pq p 9) ≠ 3 ∧ A w 109 p ≠ 3) (pt : PTQ m p U ow kd Fv P B Wc Y) (cx : CTX Fv P m) (xc : CX w p (hp w p) U ow' kd' Fv' P' W B Y) (g : GT U ow kd P (m.2.1 1110)) (g' : GT U ow' kd' P' x) (rt : RTb b (m.2.1 1110) x) (hee : F m 955 = ((ee : Nat) : Int) ∧ ee < 24) (hee' : F w 150 = ((ee' : Nat) : Int) ∧ ee' < 4000)
    (ke : ∀ m1 t1, GGm p m m1 → (SCs p m w → SCs p m1 w) → F m1 (pq p 15) = F m (pq p 15) → m1.1 (pq p 5) = w.2.2.1 90 p → RQs Fv P Fv' P' PR (enS m1 p t1 p ee) (enR w p wr ((p : Nat) : Int) x ee') p wr p x → PP Q (K1 (enS m1 p t1 p ee)) (K2 (wi (enR w p wr ((p : Nat) : Int) x ee') 151 1))) : PP Q (bnd (hb_Ma_raise_65 N () m p (I how)) (fun u _ => K1 u)) (bnd (fm_M_goesUp N S w (I kn) x) (fun u _ => K2 u)) := by
  have hU := pt.1.2.1
  have h5 : m.1 (pq p 5) = w.2.2.1 90 p := by
    have := pl.1.2.2
    rw [show (wi m (pq p 26) ((W : Nat) : Int)).1 (pq p 5) = m.1 (pq p 5) from if_neg (pq_inj (by omega))] at this
    exact this
  have hcl : hb_Ma_raise_65 N () m p (I how) = bnd (hm_Pr_pair N m p (I ((v : Nat) : Int)) (m.2.1 1110)) (fun u8 r8 => bnd (hm_Wl_endsWith N u8 p r8 p) (fun u5 _ => some (u5, ()))) := by
    unfold hb_Ma_raise_65
    rw [I_F' h28, show decide (I 0 = 0) = true from rfl, br_tq]
    rcases hv with ⟨rfl, rfl, rfl, rfl⟩ | ⟨rfl, rfl, rfl, rfl⟩ <;> rfl
  rw [hcl, bb_e]
  refine l_bnd (pk_mo (pk_andq (pair_m (N := N) (v := ((v : Nat) : Int)) (t := m.2.1 1110) pt.1.1 (by omega)) (pk_ok (pair_t (N := N) cx pt.1.1 (by omega) pt.1.2.2 g (by omega)))) (fun m1 t1 h => ?_))
  obtain ⟨⟨hm1, rfl⟩, f1, e4, -, ow2, kd2, hg, gt, -⟩ := h
  have fr : FR [pq p 4] [] [] [pq p 2] m m1 := by
    rw [hm1]
    exact FR.wi (FR.wj (FR.wj (FR.wj FR.rf (by simp)) (by simp)) (by simp)) (by simp)
  have i1 : ∀ d, d ≠ 4 → m1.1 (pq p d) = m.1 (pq p d) := fun d hd => fr.1 _ (by simp; exact pq_inj hd)
  have e9 : F m1 (pq p 9) ≠ 3 := by
    show (m1.1 (pq p 9)).toInt ≠ 3
    rw [i1 9 (by omega)]; exact h9.1
  have e55 : F m1 955 = ((ee : Nat) : Int) := by rw [FR.F fr (by simp [pq_n])]; exact hee.1
  rw [endsW_e e9 e55 hee.2, bnd_so, bnd_so]
  have cm : ∀ i, m1.2.2.2 (pq p 2) i = if i = U + 2 then m.2.1 1110 else if i = U + 1 then mk 1 ((v : Nat) : Int) else if i = U then mk 8 2 else m.2.2.2 (pq p 2) i := fun i => by
    rw [hm1]
    show (wj (wj (wj m (pq p 2) U (mk 8 2)) (pq p 2) (U + 1) (mk 1 ((v : Nat) : Int))) (pq p 2) (U + 2) (m.2.1 1110)).2.2.2 (pq p 2) i = _
    rw [wj_row, wj_row, wj_row]
  have hwr : wr = 1 ∨ wr = 2 := by omega
  have vv : ((v : Nat) : Int) = if wr = 1 then 7 else 19 := by
    rcases hv with ⟨_, _, rfl, rfl⟩ | ⟨_, _, rfl, rfl⟩ <;> rfl
  refine goes_n (wr := wr) (ee' := ee') hpp (by omega) h152 h133 h106 h9.2 hee'.1 hee'.2 ?_
  refine ke m1 _ (GGm_pa fr) (fun s => SC_ow s (fun d hd => i1 d (by omega)) (fr.2.2.1 _ (by simp)) (fun _ _ _ => rfl)) (congrArg Int32.toInt (i1 15 (by omega))) (by rw [i1 5 (by omega)]; exact h5) (RQ_wrap (m := m) (t := m.2.1 1110) (B := B) (W := W) (Y := Y) hpr hpp hwr pl.1.2.1 (fun i hi => by rw [cm, if_neg (by omega), if_neg (by omega), if_neg (by omega)]) (by rw [cm, if_neg (by omega), if_neg (by omega), if_pos rfl]) (by rw [cm, if_neg (by omega), if_pos rfl, vv]) (by rw [cm, if_pos rfl]) hg gt xc pl.1.1.2.1 hU g' rt)
end
end
section
set_option maxRecDepth 100000
section
variable {Sf : MS → Int32 → Prop} {α β : Type} {b : Int → Nat → Nat → Prop} {N p k l U B W Y j a n : Nat} {m w m2 w2 m3 w3 : MS} {t x : Int64} {nb : Nat → Nat} {Hs Os : Nat → List Nat} {y : Option (Nat × Nat × Nat)} {Q : MS → α → MS → β → Prop} {K1 : MS → Option (MS × α)} {K2 : MS → Option (MS × β)} {v : Int} {G : MS → Nat → Int32 → Option (MS × Int32)}
theorem RTb_at (r : RTb b t x) : t = mk 1 v ↔ x = mk 1 v := by
  have s1 : so (mk 1 v) = 1 := so_mk (by omega) (by omega)
  rcases r with ⟨-, e, -⟩ | ⟨h, e, -⟩
  · rw [e]
  · constructor
    · intro c
      rw [c] at h
      exact absurd h (nh_mk (by omega))
    · intro c
      have : isH x := by unfold isH at h ⊢; rw [e]; exact h
      rw [c] at this
      exact absurd this (nh_mk (by omega))
theorem dec_lg {t u : Int64} (h : t = u) : decide (lg_cmp t u = 0) = true := decide_eq_true ((lgc_eq t u).mpr h)
theorem dec_lg0 {t u : Int64} (h : t ≠ u) : decide (lg_cmp t u = 0) = false := decide_eq_false (fun c => h ((lgc_eq t u).mp c))
theorem mk10_11 : mk 1 0 ≠ mk 1 1 := by decide
theorem set_id (h : F m 955 ≤ F m 956) : hm_Wl_settle N m = some (m, ()) := by
  have r1 := F_r m 955
  have r2 := F_r m 956
  unfold hm_Wl_settle hb_Wl_settle_0
  rw [I_F (k := 955), I_F (k := 956), decI r1.1 r1.2 r2.1 r2.2, decide_eq_true h, br_tq]
theorem go195 {β : Type} {Q : MS → Int32 → MS → β → Prop} {Z : Option (MS × β)} (h9 : F m 1109 = 0) (h : F m 955 ≤ F m 956) (hh : Sf m (I ((k : Nat) : Int)) → PP Q (G m p (I ((k + 1 : Nat) : Int))) Z) : PP Q (q195 Sf N G m p (I ((k : Nat) : Int))) Z := by
  unfold q195 q206 hb_Ma_goOn_206
  refine pp_cll (fun hs => ?_)
  rw [I_F' h9, show decide (I 0 = 0) = true from rfl, br_tq]
  refine pp_cll (fun _ => ?_)
  rw [set_id h, bnd_so, show I ((k : Nat) : Int) + 1 = I ((k + 1 : Nat) : Int) from addN]
  exact hh hs
theorem one_22 : fm_M_one N w (I v) (I 22) = bnd (fm_M_goTo N w (I v + 1)) (fun u7 _ => bnd (fm_M_take N u7) (fun u10 r10 => bnd (fm_M_truth N u10 1) (fun u11 r11 => br (decide ((lg_cmp r10 r11) = 0)) (some (u11, ())) (bnd (fr_M_guardFails N u11) (fun u12 _ => some (u12, ())))))) := rfl
theorem one_7 : fm_M_one N w (I v) (I 7) = bnd (fm_M_goTo N w (I v + 1)) (fun u7 _ => bnd (fm_M_otherRun N u7 (I v) (I 7)) (fun u8 _ => some (u8, ()))) := rfl
theorem oth_7 {z : Int32} : fm_M_otherRun N w z (I 7) = bnd (fm_M_take N w) (fun u27 r27 => bnd (fm_M_isTruth N u27 r27) (fun u28 r28 => br (decide (r28 = 0)) (bnd (fr_M_error N u28 11) (fun u29 _ => some (u29, ()))) (bnd (fm_M_truth N u28 0) (fun u30 r30 => br (decide ((lg_cmp r27 r30) = 0)) (bnd (fm_M_truth N u30 1) (fun u5 r5 => bnd (fm_M_put N u5 r5) (fun u6 _ => some (u6, ())))) (bnd (fm_M_truth N u30 0) (fun u5 r5 => bnd (fm_M_put N u5 r5) (fun u6 _ => some (u6, ())))))))) := rfl
theorem isTr_1 (h : t = mk 1 0 ∨ t = mk 1 1) : fm_M_isTruth N w t = some (w, 1) := by
  unfold fm_M_isTruth fb_M_isTruth_0
  rw [truth1, bnd_so]
  by_cases c : t = mk 1 0
  · rw [dec_lg c, br_tq]
    rfl
  · have e : t = mk 1 1 := by
      rcases h with h | h
      · exact absurd h c
      · exact h
    rw [dec_lg0 c, br_fq, truth0, bnd_so, dec_lg e, br_tq]
    rfl
theorem isTr_0 (h0 : t ≠ mk 1 0) (h1 : t ≠ mk 1 1) : fm_M_isTruth N w t = some (w, 0) := by
  unfold fm_M_isTruth fb_M_isTruth_0
  rw [truth1, bnd_so, dec_lg0 h0, br_fq, truth0, bnd_so, dec_lg0 h1, br_fq]
  rfl
theorem op_holds (hpp : p < 24) (pl : PLs b p m w U B (W + 1) Y) (ru : RUs m w p j nb Hs Os y a n) (hW : W + 1 ≤ 46000) (hl : F m (pq p 45) = ((l : Nat) : Int)) (hl2 : W + 1 ≤ l ∧ l ≤ 1000000) (ha : a + 1 < 24000) (cr : ∃ f, CRs (A m 23) (ROs w) (w.2.2.2 34) f y (a + 1) (n + 1) (Hs j) (Os j))
    (c : ∀ m3 w3, PLs b p m3 w3 U B W Y → RUs m3 w3 p j nb Hs Os y (a + 1) (n + 1) → FGm p m m3 → FGw p j w w3 → PP Q (K1 m3) (K2 w3))
    (c0 : PP Q (bnd (bnd (hm_Ma_guardFails N m p) (fun u31 _ => some (u31, ()))) (fun u _ => K1 u)) (bnd (bnd (fr_M_guardFails N (wa (wa w 98 (60 * p + j) ((n + 1 : Nat) : Int)) 92 p ((W : Nat) : Int))) (fun u12 _ => some (u12, ()))) (fun u _ => K2 u))) : PP Q (bnd (hm_Ma_flow N m p (I 22)) (fun u _ => K1 u)) (bnd (fm_M_one N w (I ((n : Nat) : Int)) (I 22)) (fun u _ => K2 u)) := by
  obtain ⟨⟨fa, ct⟩, ⟨r2, r3⟩, -, ⟨r5, r6⟩, r7, ⟨r8, r9, r10⟩, r11, r12, r13⟩ := id ru
  have hj : j < 60 := fa.1.2.2
  have rt := pl.2.2.1.2.2 W (by omega)
  have be : hm_Fr_below N m p 0 = some (m, m.2.2.2 (pq p 35) W) := by
    have := below_e (N := N) (x := 0) (k := 0) (W := W + 1) (l := l) pl.2.2.1.1 hl hl2.1 hl2.2 rfl (by omega)
    rw [show W + 1 - 1 - 0 = W by omega] at this
    exact this
  rw [flo22, one_22, show I ((n : Nat) : Int) + 1 = I ((n + 1 : Nat) : Int) from addN, I_F' r2, show I ((a : Nat) : Int) + 1 = I ((a + 1 : Nat) : Int) from addN, Co_e (k := a + 1) rfl ha, bnd_so, be, bnd_so, show hm_Ma_atom N m 0 = some (m, mk 1 0) from rfl, bnd_so, bb_e]
  refine r_bnd (pk_mo (goto_r (N := N) (n := ((n + 1 : Nat) : Int)) hpp r11 fa.1.2.1 hj) (fun w2 _ h => ?_))
  subst h
  have h92 : A (wa w 98 (60 * p + j) ((n + 1 : Nat) : Int)) 92 p = ((W + 1 : Nat) : Int) := by rw [wa_rne (by omega)]; exact pl.2.2.1.2.1
  rw [bb_e]
  refine r_bnd (pk_mo (take_r (N := N) (w := wa w 98 (60 * p + j) ((n + 1 : Nat) : Int)) hpp r11 h92 (by omega)) (fun w3 r h => ?_))
  obtain ⟨rfl, rfl⟩ := h
  rw [truth1, bnd_so]
  have rt' : RTb b (m.2.2.2 (pq p 35) W) ((wa w 98 (60 * p + j) ((n + 1 : Nat) : Int)).2.2.2 91 (46000 * p + W)) := rt
  by_cases e : m.2.2.2 (pq p 35) W = mk 1 0
  · rw [dec_lg e, br_tq, dec_lg ((RTb_at rt').mp e), br_tq, show (1 : Int32) = I 1 from rfl, drop_e (W := W + 1) (k := 1) (x := 1) pl.2.2.1.1 rfl (by omega), bnd_so, Nat.add_sub_cancel]
    have e5 : F (wi m (pq p 26) ((W : Nat) : Int)) 1105 = ((a : Nat) : Int) := by rw [wi_ne (pq_n (by omega))]; exact r2
    rw [I_F' e5, show I ((a : Nat) : Int) + I 1 = I ((a + 1 : Nat) : Int) from addN, wi_e]
    show PP Q (K1 (wi (wi m (pq p 26) ((W : Nat) : Int)) 1105 ((a + 1 : Nat) : Int))) (K2 (wa (wa w 98 (60 * p + j) ((n + 1 : Nat) : Int)) 92 p ((W : Nat) : Int)))
    have f3 : FGm p m (wi (wi m (pq p 26) ((W : Nat) : Int)) 1105 ((a + 1 : Nat) : Int)) := FGm.tr FGm.drop FGm.pc
    have g3 : FGw p j w (wa (wa w 98 (60 * p + j) ((n + 1 : Nat) : Int)) 92 p ((W : Nat) : Int)) := FGw.tr FGw.goto FGw.w92
    have nb9 := (CR_b cr.choose_spec).2.1
    have h98 : A (wa (wa w 98 (60 * p + j) ((n + 1 : Nat) : Int)) 92 p ((W : Nat) : Int)) 98 (60 * p + j) = ((n + 1 : Nat) : Int) := by rw [wa_rne (by omega), wa_sm (by omega) (by omega)]
    exact c _ _ (PLs_pc (PLs_drop (k := 1) (PLs_98 pl) (by omega))) (RUs_mv ru f3 g3 (by rw [wi_sm (by omega) (by omega)]) h98 cr) f3 g3
  · rw [dec_lg0 e, br_fq, dec_lg0 (fun z => e ((RTb_at rt').mpr z)), br_fq]
    exact c0
theorem op_not (hpp : p < 24) (pl : PLs b p m w U B (W + 1) Y) (ru : RUs m w p j nb Hs Os y a n) (hW : W + 1 < 46000) (hl : F m (pq p 45) = ((l : Nat) : Int)) (hl2 : W + 1 ≤ l ∧ l ≤ 1000000) (ha : a + 1 < 24000) (cr : ∃ f, CRs (A m 23) (ROs w) (w.2.2.2 34) f y (a + 1) (n + 1) (Hs j) (Os j))
    (c : ∀ m3 w3, PLs b p m3 w3 U B (W + 1) Y → RUs m3 w3 p j nb Hs Os y (a + 1) (n + 1) → FGm p m m3 → FGw p j w w3 → PP Q (K1 m3) (K2 w3))
    (c0 : PP Q (bnd (hm_Ma_wrong N m p 11) (fun u _ => K1 u)) (bnd (fr_M_error N (wa (wa w 98 (60 * p + j) ((n + 1 : Nat) : Int)) 92 p ((W : Nat) : Int)) 11) (fun u _ => K2 u))) : PP Q (bnd (hm_Ma_value N m p (I 12)) (fun u _ => K1 u)) (bnd (fm_M_one N w (I ((n : Nat) : Int)) (I 7)) (fun u _ => K2 u)) := by
  obtain ⟨⟨fa, ct⟩, ⟨r2, r3⟩, -, ⟨r5, r6⟩, r7, ⟨r8, r9, r10⟩, r11, r12, r13⟩ := id ru
  have hj : j < 60 := fa.1.2.2
  have rt := pl.2.2.1.2.2 W (by omega)
  have be : hm_Fr_below N m p 0 = some (m, m.2.2.2 (pq p 35) W) := by
    have := below_e (N := N) (x := 0) (k := 0) (W := W + 1) (l := l) pl.2.2.1.1 hl hl2.1 hl2.2 rfl (by omega)
    rw [show W + 1 - 1 - 0 = W by omega] at this
    exact this
  have rt' : RTb b (m.2.2.2 (pq p 35) W) ((wa w 98 (60 * p + j) ((n + 1 : Nat) : Int)).2.2.2 91 (46000 * p + W)) := rt
  have cl : hm_Ma_not N m p = (if m.2.2.2 (pq p 35) W = mk 1 0 then hb_Ma_not_50 N () m p 1 0 else if m.2.2.2 (pq p 35) W = mk 1 1 then hb_Ma_not_50 N () m p 1 1 else bnd (hm_Ma_wrong N m p 11) (fun u11 _ => some (u11, ()))) := by
    unfold hm_Ma_not hb_Ma_not_0 hb_Ma_not_34
    rw [be, bnd_so, show hm_Ma_atom N m 0 = some (m, mk 1 0) from rfl, bnd_so, show hm_Ma_atom N m 1 = some (m, mk 1 1) from rfl, bnd_so, bnd_so]
    by_cases e0 : m.2.2.2 (pq p 35) W = mk 1 0
    · rw [if_pos e0, dec_lg e0, br_tq, dec_lg0 (fun z => mk10_11 (e0.symm.trans z)), br_fq]
    · rw [if_neg e0, dec_lg0 e0, br_fq]
      by_cases e1 : m.2.2.2 (pq p 35) W = mk 1 1
      · rw [if_pos e1, dec_lg e1, br_tq, show hm_Ma_atom N m 1 = some (m, mk 1 1) from rfl, bnd_so, dec_lg e1, br_tq]
      · rw [if_neg e1, dec_lg0 e1, br_fq]
  rw [val12, one_7, show I ((n : Nat) : Int) + 1 = I ((n + 1 : Nat) : Int) from addN, I_F' r2, show I ((a : Nat) : Int) + 1 = I ((a + 1 : Nat) : Int) from addN, Co_e (k := a + 1) rfl ha, bnd_so, cl, bb_e, bb_e]
  refine r_bnd (pk_mo (goto_r (N := N) (n := ((n + 1 : Nat) : Int)) hpp r11 fa.1.2.1 hj) (fun w2 _ h => ?_))
  subst h
  have h92 : A (wa w 98 (60 * p + j) ((n + 1 : Nat) : Int)) 92 p = ((W + 1 : Nat) : Int) := by rw [wa_rne (by omega)]; exact pl.2.2.1.2.1
  rw [oth_7, bb_e, bb_e]
  refine r_bnd (pk_mo (take_r (N := N) (w := wa w 98 (60 * p + j) ((n + 1 : Nat) : Int)) hpp r11 h92 (by omega)) (fun w3 r h => ?_))
  obtain ⟨rfl, rfl⟩ := h
  have g3 : FGw p j w (wa (wa w 98 (60 * p + j) ((n + 1 : Nat) : Int)) 92 p ((W : Nat) : Int)) := FGw.tr FGw.goto FGw.w92
  have nb9 := (CR_b cr.choose_spec).2.1
  have h98 : A (wa (wa w 98 (60 * p + j) ((n + 1 : Nat) : Int)) 92 p ((W : Nat) : Int)) 98 (60 * p + j) = ((n + 1 : Nat) : Int) := by rw [wa_rne (by omega), wa_sm (by omega) (by omega)]
  have pl2 : PLs b p (wi m (pq p 26) ((W : Nat) : Int)) (wa (wa w 98 (60 * p + j) ((n + 1 : Nat) : Int)) 92 p ((W : Nat) : Int)) U B W Y := PLs_drop (k := 1) (PLs_98 pl) (by omega)
  have e5 : F (wi m (pq p 26) ((W : Nat) : Int)) 1105 = ((a : Nat) : Int) := by rw [wi_ne (pq_n (by omega))]; exact r2
  have e45 : F (wi m (pq p 26) ((W : Nat) : Int)) (pq p 45) = ((l : Nat) : Int) := by rw [wi_ne (pq_inj (by omega))]; exact hl
  have fin : ∀ z : Int, (z = 0 ∨ z = 1) → ∀ q : Option (MS × Unit), q = bnd (hm_Fr_push N (wi m (pq p 26) ((W : Nat) : Int)) p (mk 1 z)) (fun u11 _ => lt (upI u11 1105 ((u11.1 1105) + I ((1 : Nat) : Int))) (fun w14 => some (w14, ()))) → PP Q (bnd q (fun u (_ : Unit) => K1 u)) (bnd (bnd (fm_M_put N (wa (wa w 98 (60 * p + j) ((n + 1 : Nat) : Int)) 92 p ((W : Nat) : Int)) (mk 1 z)) (fun u28 _ => some (u28, ()))) (fun u (_ : Unit) => K2 u)) := fun z hz q hq => by
    rw [hq]
    exact push_pp (a2 := a + 1) (n2 := n + 1) (dz := 1) (l := l) (W := W) (t := mk 1 z) (x := mk 1 z) hpp ru ⟨by omega, hl, by omega, hl2.2⟩ (lit_b (by omega) (fun h => by omega) ⟨by omega, by omega⟩) FGm.drop g3 pl2 e45 r11 h98 e5 rfl (by omega) cr c
  have ans : ∀ z : Int32, ∀ v : Int, hm_Ma_truth N m z = some (m, mk 1 v) → hb_Ma_not_50 N () m p 1 z = bnd (hm_Fr_push N (wi m (pq p 26) ((W : Nat) : Int)) p (mk 1 v)) (fun u11 _ => lt (upI u11 1105 ((u11.1 1105) + I ((1 : Nat) : Int))) (fun w14 => some (w14, ()))) := fun z v hz => by
    unfold hb_Ma_not_50 hm_Ma_answer hb_Ma_answer_0
    rw [hz, bnd_so, show (1 : Int32) = I 1 from rfl, drop_e (W := W + 1) (k := 1) (x := 1) pl.2.2.1.1 rfl (by omega), bnd_so, Nat.add_sub_cancel, bb_e]
    rfl
  by_cases e0 : m.2.2.2 (pq p 35) W = mk 1 0
  · rw [if_pos e0, isTr_1 (Or.inl ((RTb_at rt').mp e0)), bnd_so, show decide ((1 : Int32) = 0) = false from rfl, br_fq, truth0, bnd_so, dec_lg0 (fun z => mk10_11 (((RTb_at rt').mp e0).symm.trans z)), br_fq, truth0, bnd_so]
    exact fin 1 (Or.inr rfl) _ (by rw [ans 0 1 rfl])
  · by_cases e1 : m.2.2.2 (pq p 35) W = mk 1 1
    · rw [if_neg e0, if_pos e1, isTr_1 (Or.inr ((RTb_at rt').mp e1)), bnd_so, show decide ((1 : Int32) = 0) = false from rfl, br_fq, truth0, bnd_so, dec_lg ((RTb_at rt').mp e1), br_tq, truth1, bnd_so]
      exact fin 0 (Or.inl rfl) _ (by rw [ans 1 0 rfl])
    · rw [if_neg e0, if_neg e1, isTr_0 (fun z => e0 ((RTb_at rt').mpr z)) (fun z => e1 ((RTb_at rt').mpr z)), bnd_so, show decide ((0 : Int32) = 0) = true from rfl, br_tq, bb_e, bb_e]
      exact c0
end
end
section
set_option maxRecDepth 100000
section
variable {α β : Type} {b : Int → Nat → Nat → Prop} {N p k l U B W Y j a n t2 n2 : Nat} {m w m2 w2 m3 w3 : MS} {t x : Int64} {nb : Nat → Nat} {Hs Os : Nat → List Nat} {y : Option (Nat × Nat × Nat)} {Q : MS → α → MS → β → Prop} {K1 : MS → Option (MS × α)} {K2 : MS → Option (MS × β)} {v : Int}
theorem one_9 : fm_M_one N w (I v) (I 9) = bnd (fm_M_goTo N w (I v + 1)) (fun u7 _ => bnd (fm_M_otherRun N u7 (I v) (I 9)) (fun u8 _ => some (u8, ()))) := rfl
theorem one_10 : fm_M_one N w (I v) (I 10) = bnd (fm_M_goTo N w (I v + 1)) (fun u7 _ => bnd (fm_M_otherRun N u7 (I v) (I 10)) (fun u8 _ => some (u8, ()))) := rfl
theorem oth_9 {z : Int32} : fm_M_otherRun N w z (I 9) = bnd (fm_M_top N w 0) (fun u10 r10 => bnd (fm_M_isTruth N u10 r10) (fun u11 r11 => br (decide (r11 = 0)) (bnd (fr_M_error N u11 11) (fun u12 _ => some (u12, ()))) (bnd (fm_M_truth N u11 0) (fun u7 r7 => br (decide ((lg_cmp r10 r7) = 0)) (ck (inb z (ln 25)) (bnd (fm_M_goTo N u7 (u7.2.2.1 25 z.toNatClampNeg)) (fun u9 _ => some (u9, ())))) (bnd (fm_M_take N u7) (fun u8 _ => some (u8, ()))))))) := rfl
theorem oth_10 {z : Int32} : fm_M_otherRun N w z (I 10) = bnd (fm_M_top N w 0) (fun u10 r10 => bnd (fm_M_isTruth N u10 r10) (fun u11 r11 => br (decide (r11 = 0)) (bnd (fr_M_error N u11 11) (fun u12 _ => some (u12, ()))) (bnd (fm_M_truth N u11 1) (fun u7 r7 => br (decide ((lg_cmp r10 r7) = 0)) (ck (inb z (ln 25)) (bnd (fm_M_goTo N u7 (u7.2.2.1 25 z.toNatClampNeg)) (fun u9 _ => some (u9, ())))) (bnd (fm_M_take N u7) (fun u8 _ => some (u8, ()))))))) := rfl
theorem op_hinge {sc sr : Int} {dr : Int} (hk : (sc = 13 ∧ sr = 9 ∧ dr = 0) ∨ (sc = 14 ∧ sr = 10 ∧ dr = 1)) (hpp : p < 24) (pl : PLs b p m w U B (W + 1) Y) (ru : RUs m w p j nb Hs Os y a n) (hW : W + 1 < 46000) (hl : F m (pq p 45) = ((l : Nat) : Int)) (hl2 : W + 1 ≤ l ∧ l ≤ 1000000) (ha : a + 1 < 24000) (hn : n < 100000) (ht : A m 23 (a + 1) = ((t2 : Nat) : Int)) (hd : A w 25 n = ((n2 : Nat) : Int)) (cr : ∃ f, CRs (A m 23) (ROs w) (w.2.2.2 34) f y (a + 2) (n + 1) (Hs j) (Os j)) (cr2 : ∃ f, CRs (A m 23) (ROs w) (w.2.2.2 34) f y t2 n2 (Hs j) (Os j))
    (c : ∀ W3 a3 n3 m3 w3, (W3 = W ∨ W3 = W + 1) → PLs b p m3 w3 U B W3 Y → RUs m3 w3 p j nb Hs Os y a3 n3 → FGm p m m3 → FGw p j w w3 → PP Q (K1 m3) (K2 w3))
    (c0 : PP Q (bnd (hm_Ma_wrong N m p 11) (fun u _ => K1 u)) (bnd (fr_M_error N (wa w 98 (60 * p + j) ((n + 1 : Nat) : Int)) 11) (fun u _ => K2 u))) : PP Q (bnd (hm_Ma_value N m p (I sc)) (fun u _ => K1 u)) (bnd (fm_M_one N w (I ((n : Nat) : Int)) (I sr)) (fun u _ => K2 u)) := by
  obtain ⟨⟨fa, ct⟩, ⟨r2, r3⟩, -, ⟨r5, r6⟩, r7, ⟨r8, r9, r10⟩, r11, r12, r13⟩ := id ru
  have hj : j < 60 := fa.1.2.2
  have t24 := A_r m 23 (a + 1)
  rw [ht] at t24
  have n24 := A_r w 25 n
  rw [hd] at n24
  have rt := pl.2.2.1.2.2 W (by omega)
  have be : hm_Fr_below N m p 0 = some (m, m.2.2.2 (pq p 35) W) := by
    have := below_e (N := N) (x := 0) (k := 0) (W := W + 1) (l := l) pl.2.2.1.1 hl hl2.1 hl2.2 rfl (by omega)
    rw [show W + 1 - 1 - 0 = W by omega] at this
    exact this
  have rt' : RTb b (m.2.2.2 (pq p 35) W) ((wa w 98 (60 * p + j) ((n + 1 : Nat) : Int)).2.2.2 91 (46000 * p + W)) := rt
  have aw : ∀ K i, K ≠ 98 → A (wa w 98 (60 * p + j) ((n + 1 : Nat) : Int)) K i = A w K i := fun K i h => by rw [wa_rne h]
  have cl : hm_Ma_value N m p (I sc) = (if m.2.2.2 (pq p 35) W = mk 1 dr then some (wi (wi m (pq p 26) ((W : Nat) : Int)) 1105 ((a + 2 : Nat) : Int), ()) else if m.2.2.2 (pq p 35) W = mk 1 (1 - dr) then some (wi m 1105 ((t2 : Nat) : Int), ()) else bnd (hm_Ma_wrong N m p 11) (fun u _ => some (u, ()))) := by
    have dp : hm_Fr_drop N m p 1 = some (wi m (pq p 26) ((W : Nat) : Int), ()) := by
      have := drop_e (N := N) (W := W + 1) (k := 1) (x := 1) pl.2.2.1.1 rfl (by omega)
      rw [Nat.add_sub_cancel] at this
      exact this
    have e5 : F (wi m (pq p 26) ((W : Nat) : Int)) 1105 = ((a : Nat) : Int) := by rw [wi_ne (pq_n (by omega))]; exact r2
    have h36 : ∀ (z : Int32) (tr : Int64), hm_Ma_truth N m z = some (m, tr) → hb_Ma_hinge_36 N () m p z (I ((t2 : Nat) : Int)) (m.2.2.2 (pq p 35) W) = (if m.2.2.2 (pq p 35) W = tr then some (wi (wi m (pq p 26) ((W : Nat) : Int)) 1105 ((a + 2 : Nat) : Int), ()) else some (wi m 1105 ((t2 : Nat) : Int), ())) := fun z tr hz => by
      unfold hb_Ma_hinge_36
      rw [hz, bnd_so]
      by_cases e : m.2.2.2 (pq p 35) W = tr
      · rw [if_pos e, dec_lg e, br_tq, dp, bnd_so, I_F' e5, show I ((a : Nat) : Int) + 2 = I ((a + 2 : Nat) : Int) from addN, wi_e]
        rfl
      · rw [if_neg e, dec_lg0 e, br_fq, wi_e]
        rfl
    have gen : ∀ (z : Int32) (d : Int), hm_Ma_truth N m z = some (m, mk 1 d) → (d = 0 ∨ d = 1) → bnd (hm_Ma_hinge N m p z (I ((t2 : Nat) : Int))) (fun u23 _ => some (u23, ())) = (if m.2.2.2 (pq p 35) W = mk 1 d then some (wi (wi m (pq p 26) ((W : Nat) : Int)) 1105 ((a + 2 : Nat) : Int), ()) else if m.2.2.2 (pq p 35) W = mk 1 (1 - d) then some (wi m 1105 ((t2 : Nat) : Int), ()) else bnd (hm_Ma_wrong N m p 11) (fun u _ => some (u, ()))) := fun z d hz hd => by
      unfold hm_Ma_hinge hb_Ma_hinge_0
      rw [be, bnd_so, show hm_Ma_atom N m 0 = some (m, mk 1 0) from rfl, bnd_so, show hm_Ma_atom N m 1 = some (m, mk 1 1) from rfl, bnd_so, h36 z _ hz]
      by_cases e0 : m.2.2.2 (pq p 35) W = mk 1 0
      · rw [dec_lg e0, br_tq]
        rcases hd with rfl | rfl
        · rw [if_pos e0, if_pos e0]
          rfl
        · have e1 : m.2.2.2 (pq p 35) W ≠ mk 1 1 := fun z => mk10_11 (e0.symm.trans z)
          rw [if_neg e1, if_neg e1, if_pos (show m.2.2.2 (pq p 35) W = mk 1 (1 - 1) from e0)]
          rfl
      · rw [dec_lg0 e0, br_fq]
        by_cases e1 : m.2.2.2 (pq p 35) W = mk 1 1
        · rw [dec_lg e1, br_tq]
          rcases hd with rfl | rfl
          · rw [if_neg e0, if_neg e0, if_pos (show m.2.2.2 (pq p 35) W = mk 1 (1 - 0) from e1)]
            rfl
          · rw [if_pos e1, if_pos e1]
            rfl
        · rw [dec_lg0 e1, br_fq]
          rcases hd with rfl | rfl
          · rw [if_neg e0, if_neg (show m.2.2.2 (pq p 35) W ≠ mk 1 (1 - 0) from e1), bb_e]
            rfl
          · rw [if_neg e1, if_neg (show m.2.2.2 (pq p 35) W ≠ mk 1 (1 - 1) from e0), bb_e]
            rfl
    rcases hk with ⟨rfl, rfl, rfl⟩ | ⟨rfl, rfl, rfl⟩
    · rw [val13, I_F' r2, show I ((a : Nat) : Int) + 1 = I ((a + 1 : Nat) : Int) from addN, Co_e (k := a + 1) rfl ha, bnd_so, ht]
      exact gen 1 0 rfl (Or.inl rfl)
    · rw [val14, I_F' r2, show I ((a : Nat) : Int) + 1 = I ((a + 1 : Nat) : Int) from addN, Co_e (k := a + 1) rfl ha, bnd_so, ht]
      exact gen 0 1 rfl (Or.inr rfl)
  have dr01 : dr = 0 ∨ dr = 1 := by omega
  have rf1 : PP Q (bnd (hm_Ma_value N m p (I sc)) (fun u _ => K1 u)) (bnd (bnd (fm_M_goTo N w (I ((n + 1 : Nat) : Int))) (fun u7 _ => bnd (bnd (fm_M_top N u7 0) (fun u10 r10 => bnd (fm_M_isTruth N u10 r10) (fun u11 r11 => br (decide (r11 = 0)) (bnd (fr_M_error N u11 11) (fun u12 _ => some (u12, ()))) (bnd (some (u11, mk 1 (1 - dr))) (fun u7 r7 => br (decide ((lg_cmp r10 r7) = 0)) (ck (inb (I ((n : Nat) : Int)) (ln 25)) (bnd (fm_M_goTo N u7 (u7.2.2.1 25 (I ((n : Nat) : Int)).toNatClampNeg)) (fun u9 _ => some (u9, ())))) (bnd (fm_M_take N u7) (fun u8 _ => some (u8, ())))))))) (fun u8 _ => some (u8, ())))) (fun u _ => K2 u)) := by
    rw [bb_e]
    refine r_bnd (pk_mo (goto_r (N := N) (n := ((n + 1 : Nat) : Int)) hpp r11 fa.1.2.1 hj) (fun w2 _ h => ?_))
    subst h
    have h92 : A (wa w 98 (60 * p + j) ((n + 1 : Nat) : Int)) 92 p = ((W + 1 : Nat) : Int) := by rw [aw 92 p (by omega)]; exact pl.2.2.1.2.1
    rw [bb_e, bb_e]
    refine r_bnd (pk_mo (top_r (N := N) (w := wa w 98 (60 * p + j) ((n + 1 : Nat) : Int)) (k := 0) hpp r11 h92 (by omega) (by omega)) (fun w3 r h => ?_))
    obtain ⟨rfl, rfl⟩ := h
    rw [show W + 1 - 1 - 0 = W by omega]
    generalize hx : (wa w 98 (60 * p + j) ((n + 1 : Nat) : Int)).2.2.2 91 (46000 * p + W) = xx at *
    by_cases e0 : m.2.2.2 (pq p 35) W = mk 1 dr
    · have x0 := (RTb_at rt').mp e0
      have x1 : xx ≠ mk 1 (1 - dr) := fun z => by
        rw [x0] at z
        rcases dr01 with rfl | rfl
        · exact mk10_11 z
        · exact mk10_11 z.symm
      rw [cl, if_pos e0, isTr_1 (by rcases dr01 with rfl | rfl; exact Or.inl x0; exact Or.inr x0), bnd_so, bnd_so, show decide ((1 : Int32) = 0) = false from rfl, br_fq, bnd_so, dec_lg0 x1, br_fq, bb_e]
      refine r_bnd (pk_mo (take_r (N := N) (w := wa w 98 (60 * p + j) ((n + 1 : Nat) : Int)) hpp r11 h92 (by omega)) (fun w3 r h => ?_))
      obtain ⟨rfl, -⟩ := h
      rw [bnd_so]
      have f3 : FGm p m (wi (wi m (pq p 26) ((W : Nat) : Int)) 1105 ((a + 2 : Nat) : Int)) := FGm.tr FGm.drop FGm.pc
      have g3 : FGw p j w (wa (wa w 98 (60 * p + j) ((n + 1 : Nat) : Int)) 92 p ((W : Nat) : Int)) := FGw.tr FGw.goto FGw.w92
      have h98 : A (wa (wa w 98 (60 * p + j) ((n + 1 : Nat) : Int)) 92 p ((W : Nat) : Int)) 98 (60 * p + j) = ((n + 1 : Nat) : Int) := by rw [wa_rne (by omega), wa_sm (by omega) (by omega)]
      exact c W (a + 2) (n + 1) _ _ (Or.inl rfl) (PLs_pc (PLs_drop (k := 1) (PLs_98 pl) (by omega))) (RUs_mv ru f3 g3 (by rw [wi_sm (by omega) (by omega)]) h98 cr) f3 g3
    · by_cases e1 : m.2.2.2 (pq p 35) W = mk 1 (1 - dr)
      · have x1 := (RTb_at rt').mp e1
        rw [cl, if_neg e0, if_pos e1, isTr_1 (by rcases dr01 with rfl | rfl; exact Or.inr x1; exact Or.inl x1), bnd_so, bnd_so, show decide ((1 : Int32) = 0) = false from rfl, br_fq, bnd_so, dec_lg x1, br_tq]
        refine rb_ck (fun _ => ?_)
        rw [tnI (n := n) rfl (by omega), I_A' ((aw 25 n (by omega)).trans hd), bb_e]
        refine r_bnd (pk_mo (goto_r (N := N) (n := ((n2 : Nat) : Int)) (w := wa w 98 (60 * p + j) ((n + 1 : Nat) : Int)) hpp r11 ((aw 95 p (by omega)).trans fa.1.2.1) hj) (fun w3 _ h => ?_))
        subst h
        rw [bnd_so]
        have g3 : FGw p j w (wa (wa w 98 (60 * p + j) ((n + 1 : Nat) : Int)) 98 (60 * p + j) ((n2 : Nat) : Int)) := FGw.tr FGw.goto FGw.goto
        exact c (W + 1) t2 n2 _ _ (Or.inr rfl) (PLs_pc (PLs_98 (PLs_98 pl))) (RUs_mv ru FGm.pc g3 (by rw [wi_sm t24.1 t24.2]) (by rw [wa_sm n24.1 n24.2]) cr2) FGm.pc g3
      · have y0 : xx ≠ mk 1 0 := fun z => by
          rcases dr01 with rfl | rfl
          · exact e0 ((RTb_at rt').mpr z)
          · exact e1 ((RTb_at rt').mpr z)
        have y1 : xx ≠ mk 1 1 := fun z => by
          rcases dr01 with rfl | rfl
          · exact e1 ((RTb_at rt').mpr z)
          · exact e0 ((RTb_at rt').mpr z)
        rw [cl, if_neg e0, if_neg e1, isTr_0 y0 y1, bnd_so, show decide ((0 : Int32) = 0) = true from rfl, br_tq, bb_e, bb_e]
        exact c0
  rcases hk with ⟨rfl, rfl, rfl⟩ | ⟨rfl, rfl, rfl⟩
  · rw [one_9, show I ((n : Nat) : Int) + 1 = I ((n + 1 : Nat) : Int) from addN]
    exact rf1
  · rw [one_10, show I ((n : Nat) : Int) + 1 = I ((n + 1 : Nat) : Int) from addN]
    exact rf1
end
end
section
set_option maxRecDepth 100000
section
variable {α β : Type} {b : Int → Nat → Nat → Prop} {N p k l U B W Y j a n : Nat} {m w m2 w2 m3 w3 : MS} {t x : Int64} {nb : Nat → Nat} {Hs Os : Nat → List Nat} {y : Option (Nat × Nat × Nat)} {Q : MS → α → MS → β → Prop} {K1 : MS → Option (MS × α)} {K2 : MS → Option (MS × β)} {v s o kk : Int}
theorem one_6 : fm_M_one N w (I v) (I 6) = bnd (fm_M_goTo N w (I v + 1)) (fun u7 _ => ck (inb (I v) (ln 25)) (bnd (fm_M_twoRun N u7 (u7.2.2.1 25 (I v).toNatClampNeg)) (fun u21 _ => some (u21, ())))) := rfl
theorem val_m : fm_M_valueOf N w t = some (w, t.toInt32) := rfl
theorem two_ar {s : Int} (h : s = 18 ∨ s = 19 ∨ s = 20 ∨ s = 105 ∨ s = 113) : fm_M_twoRun N w (I s) = bnd (fm_M_take N w) (fun u7 r7 => bnd (fm_M_take N u7) (fun u8 r8 => bnd (fm_M_sortOf N u8 r8) (fun u9 r9 => br (decide (r9 = 0)) (bnd (fm_M_sortOf N u9 r7) (fun u10 r10 => br (decide (r10 = 0)) (br (decide (I s < 100)) (fb_M_twoRun_219 N () u10 (I s) r7 r8) (bnd (fm_M_valueOf N u10 r7) (fun u11 r11 => br (decide (r11 = 0)) (fb_M_twoRun_212 N () u11) (fb_M_twoRun_219 N () u11 (I s) r7 r8)))) (fb_M_twoRun_212 N () u10))) (fb_M_twoRun_212 N () u9)))) := by
  rcases h with rfl | rfl | rfl | rfl | rfl <;> rfl
theorem z64 {z : Int32} : z.toInt64 = 0 ↔ z = 0 := by
  constructor
  · intro h
    have := congrArg Int64.toInt h
    rw [Int32.toInt_toInt64] at this
    exact Int32.toInt_inj.mp this
  · intro h
    rw [h]
    rfl
theorem op_arith (hs : (s = 18 ∧ kk = 33) ∨ (s = 19 ∧ kk = 34) ∨ (s = 20 ∧ kk = 35) ∨ (s = 105 ∧ kk = 10) ∨ (s = 113 ∧ kk = 18)) (hpp : p < 24) (pl : PLs b p m w U B (W + 2) Y) (ru : RUs m w p j nb Hs Os y a n) (hW : W + 2 < 46000) (hl : F m (pq p 45) = ((l : Nat) : Int)) (hl2 : W + 2 ≤ l ∧ l ≤ 1000000) (ha : a + 1 < 24000) (hn : n < 100000) (ht : A m 23 (a + 1) = kk) (hd : A w 25 n = s) (cr : ∃ f, CRs (A m 23) (ROs w) (w.2.2.2 34) f y (a + 2) (n + 1) (Hs j) (Os j))
    (c : ∀ m3 w3, PLs b p m3 w3 U B (W + 1) Y → RUs m3 w3 p j nb Hs Os y (a + 2) (n + 1) → FGm p m m3 → FGw p j w w3 → PP Q (K1 m3) (K2 w3))
    (c0 : PP Q (bnd (hm_Ma_wrong N m p 12) (fun u _ => K1 u)) (bnd (fr_M_error N (wa (wa (wa w 98 (60 * p + j) ((n + 1 : Nat) : Int)) 92 p ((W + 1 : Nat) : Int)) 92 p ((W : Nat) : Int)) 12) (fun u _ => K2 u))) : PP Q (bnd (hm_Ma_value N m p (I 9)) (fun u _ => K1 u)) (bnd (fm_M_one N w (I ((n : Nat) : Int)) (I 6)) (fun u _ => K2 u)) := by
  obtain ⟨⟨fa, ct⟩, ⟨r2, r3⟩, -, ⟨r5, r6⟩, r7, ⟨r8, r9, r10⟩, r11, r12, r13⟩ := id ru
  have hj : j < 60 := fa.1.2.2
  have rt0 := pl.2.2.1.2.2 (W + 1) (by omega)
  have rt1 := pl.2.2.1.2.2 W (by omega)
  have be0 : hm_Fr_below N m p 0 = some (m, m.2.2.2 (pq p 35) (W + 1)) := by
    have := below_e (N := N) (x := 0) (k := 0) (W := W + 2) (l := l) pl.2.2.1.1 hl hl2.1 hl2.2 rfl (by omega)
    rw [show W + 2 - 1 - 0 = W + 1 by omega] at this
    exact this
  have be1 : hm_Fr_below N m p 1 = some (m, m.2.2.2 (pq p 35) W) := by
    have := below_e (N := N) (x := 1) (k := 1) (W := W + 2) (l := l) pl.2.2.1.1 hl hl2.1 hl2.2 rfl (by omega)
    rw [show W + 2 - 1 - 1 = W by omega] at this
    exact this
  have aw : ∀ K i, K ≠ 98 → A (wa w 98 (60 * p + j) ((n + 1 : Nat) : Int)) K i = A w K i := fun K i h => by rw [wa_rne h]
  rw [val9, one_6, show I ((n : Nat) : Int) + 1 = I ((n + 1 : Nat) : Int) from addN, I_F' r2, show I ((a : Nat) : Int) + 1 = I ((a + 1 : Nat) : Int) from addN, Co_e (k := a + 1) rfl ha, bnd_so, ht, bb_e, bb_e]
  refine r_bnd (pk_mo (goto_r (N := N) (n := ((n + 1 : Nat) : Int)) hpp r11 fa.1.2.1 hj) (fun w2 _ h => ?_))
  subst h
  refine rb_ck (fun _ => ?_)
  rw [tnI (n := n) rfl (by omega), I_A' ((aw 25 n (by omega)).trans hd), two_ar (by omega), bb_e, bb_e]
  have h92 : A (wa w 98 (60 * p + j) ((n + 1 : Nat) : Int)) 92 p = ((W + 1 + 1 : Nat) : Int) := by rw [aw 92 p (by omega)]; exact pl.2.2.1.2.1
  refine r_bnd (pk_mo (take_r (N := N) (W := W + 1) (w := wa w 98 (60 * p + j) ((n + 1 : Nat) : Int)) hpp r11 h92 (by omega)) (fun w3 x0 h => ?_))
  obtain ⟨rfl, rfl⟩ := h
  rw [bb_e]
  have h92b : A (wa (wa w 98 (60 * p + j) ((n + 1 : Nat) : Int)) 92 p ((W + 1 : Nat) : Int)) 92 p = ((W + 1 : Nat) : Int) := by rw [wa_sm (by omega) (by omega)]
  refine r_bnd (pk_mo (take_r (N := N) (W := W) (w := wa (wa w 98 (60 * p + j) ((n + 1 : Nat) : Int)) 92 p ((W + 1 : Nat) : Int)) hpp r11 h92b (by omega)) (fun w3 x1 h => ?_))
  obtain ⟨rfl, rfl⟩ := h
  have rt0' : RTb b (m.2.2.2 (pq p 35) (W + 1)) ((wa w 98 (60 * p + j) ((n + 1 : Nat) : Int)).2.2.2 91 (46000 * p + (W + 1))) := rt0
  have rt1' : RTb b (m.2.2.2 (pq p 35) W) ((wa (wa w 98 (60 * p + j) ((n + 1 : Nat) : Int)) 92 p ((W + 1 : Nat) : Int)).2.2.2 91 (46000 * p + W)) := rt1
  generalize (wa w 98 (60 * p + j) ((n + 1 : Nat) : Int)).2.2.2 91 (46000 * p + (W + 1)) = x0 at rt0' ⊢
  generalize (wa (wa w 98 (60 * p + j) ((n + 1 : Nat) : Int)) 92 p ((W + 1 : Nat) : Int)).2.2.2 91 (46000 * p + W) = x1 at rt1' ⊢
  have g3 : FGw p j w (wa (wa (wa w 98 (60 * p + j) ((n + 1 : Nat) : Int)) 92 p ((W + 1 : Nat) : Int)) 92 p ((W : Nat) : Int)) := FGw.tr (FGw.tr FGw.goto FGw.w92) FGw.w92
  have h98 : A (wa (wa (wa w 98 (60 * p + j) ((n + 1 : Nat) : Int)) 92 p ((W + 1 : Nat) : Int)) 92 p ((W : Nat) : Int)) 98 (60 * p + j) = ((n + 1 : Nat) : Int) := by rw [wa_rne (by omega), wa_rne (by omega), wa_sm (by omega) (by omega)]
  have pl2 : PLs b p (wi m (pq p 26) ((W : Nat) : Int)) (wa (wa (wa w 98 (60 * p + j) ((n + 1 : Nat) : Int)) 92 p ((W + 1 : Nat) : Int)) 92 p ((W : Nat) : Int)) U B W Y := by
    have q1 := PLs_drop (k := 1) (W := W + 1) (PLs_98 (i := 60 * p + j) (z := ((n + 1 : Nat) : Int)) pl) (by omega)
    have q2 := PLs_drop (k := 1) (W := W) q1 (by omega)
    exact PLs_cg q2 (fun k hk => by
      show (if pq p k = pq p 26 then _ else m.1 (pq p k)) = (if pq p k = pq p 26 then _ else if pq p k = pq p 26 then _ else m.1 (pq p k))
      by_cases e : pq p k = pq p 26
      · rw [if_pos e, if_pos e]
      · rw [if_neg e, if_neg e, if_neg e]) (fun _ _ => rfl) (fun _ _ => rfl) (fun _ _ => rfl) (fun _ _ => rfl) (fun _ _ => rfl) (fun _ _ => rfl) (fun _ _ => rfl) (fun _ _ => rfl) (fun _ _ => rfl)
  have e5 : F (wi m (pq p 26) ((W : Nat) : Int)) 1105 = ((a : Nat) : Int) := by rw [wi_ne (pq_n (by omega))]; exact r2
  have e45 : F (wi m (pq p 26) ((W : Nat) : Int)) (pq p 45) = ((l : Nat) : Int) := by rw [wi_ne (pq_inj (by omega))]; exact hl
  have no : PP Q (bnd (hb_Ma_arithmetic_92 N () m p) (fun u _ => bnd (some (u, ())) (fun u _ => K1 u))) (bnd (fb_M_twoRun_212 N () (wa (wa (wa w 98 (60 * p + j) ((n + 1 : Nat) : Int)) 92 p ((W + 1 : Nat) : Int)) 92 p ((W : Nat) : Int))) (fun u _ => bnd (some (u, ())) (fun u _ => K2 u))) := by
    unfold hb_Ma_arithmetic_92 fb_M_twoRun_212
    rw [bb_e, bb_e]
    exact c0
  have fin : ∀ z : Int64, PP Q (bnd (hb_Ma_arithmetic_208 N () m p z) (fun u _ => bnd (some (u, ())) (fun u _ => K1 u))) (bnd (fb_M_twoRun_295 N () (wa (wa (wa w 98 (60 * p + j) ((n + 1 : Nat) : Int)) 92 p ((W + 1 : Nat) : Int)) 92 p ((W : Nat) : Int)) z) (fun u _ => bnd (some (u, ())) (fun u _ => K2 u))) := fun z => by
    unfold hb_Ma_arithmetic_208 fb_M_twoRun_295 hm_Ma_number hb_Ma_number_0
    by_cases e : lg_cmp z ((z.toInt32).toInt64) = 0
    · rw [decide_eq_true e, br_tq, br_tq, valI, lit0q, e_make, bnd_so, term_e, bnd_so]
      unfold hm_Ma_answer hb_Ma_answer_0
      rw [show (2 : Int32) = I 2 from rfl, drop_e (W := W + 2) (k := 2) (x := 2) pl.2.2.1.1 rfl (by omega), bnd_so, Nat.add_sub_cancel]
      have ze : mk 0 (va z) = mk 0 (va z) := rfl
      have pp := push_pp (N := N) (a2 := a + 2) (n2 := n + 1) (dz := 2) (l := l) (W := W) (t := mk 0 (va z)) (x := mk 0 (va z)) (Q := Q) (K1 := K1) (K2 := K2) hpp ru ⟨by omega, hl, by omega, hl2.2⟩ (lit_b (by omega) (fun h => by omega) (va_r z)) FGm.drop g3 pl2 e45 r11 h98 e5 rfl (by omega) cr c
      simp only [bb_e, bnd_so] at pp
      simp only [bb_e, bnd_so]
      exact pp
    · rw [decide_eq_false e, br_fq, br_fq, bb_e, bb_e, bb_e]
      exact c0
  have e32 : hb_Ma_arithmetic_32 N () m p (I kk) = hb_Ma_arithmetic_92 N () m p := by
    unfold hb_Ma_arithmetic_32 hb_Ma_arithmetic_33
    rw [be1, bnd_so, be0, bnd_so]
    rcases hs with ⟨_, rfl⟩ | ⟨_, rfl⟩ | ⟨_, rfl⟩ | ⟨_, rfl⟩ | ⟨_, rfl⟩ <;> rfl
  have dz : ∀ z : Int, RG z → z ≠ 0 → decide (I z = 0) = false := fun z hz h => by
    rw [lit0q, decE hz.1 hz.2 (by decide) (by decide)]
    exact decide_eq_false h
  unfold hm_Ma_arithmetic hb_Ma_arithmetic_0
  rw [be1, bnd_so, e_tag, bnd_so, sortOf_e, bnd_so, RTb_so rt1']
  by_cases s1 : so (m.2.2.2 (pq p 35) W) = 0
  · rw [s1, show decide (I 0 = 0) = true from rfl, br_tq, br_tq, be0, bnd_so, e_tag, bnd_so, sortOf_e, bnd_so, RTb_so rt0']
    by_cases s0 : so (m.2.2.2 (pq p 35) (W + 1)) = 0
    · have n0 : x0 = m.2.2.2 (pq p 35) (W + 1) := RTb_n rt0' (by unfold isH; omega)
      have n1 : x1 = m.2.2.2 (pq p 35) W := RTb_n rt1' (by unfold isH; omega)
      rw [s0, show decide (I 0 = 0) = true from rfl, br_tq, br_tq, n0, n1]
      unfold hb_Ma_arithmetic_33
      rw [be1, bnd_so, be0, bnd_so]
      have d1 : ∀ z : Int64, decide (lg_cmp z 0 = 0) = decide (z = 0) := fun z => decide_eq_decide.mpr (lgc_eq z 0)
      rcases hs with ⟨rfl, rfl⟩ | ⟨rfl, rfl⟩ | ⟨rfl, rfl⟩ | ⟨rfl, rfl⟩ | ⟨rfl, rfl⟩
      · exact fin (((m.2.2.2 (pq p 35) W).toInt32).toInt64 + ((m.2.2.2 (pq p 35) (W + 1)).toInt32).toInt64)
      · exact fin (((m.2.2.2 (pq p 35) W).toInt32).toInt64 - ((m.2.2.2 (pq p 35) (W + 1)).toInt32).toInt64)
      · exact fin (((m.2.2.2 (pq p 35) W).toInt32).toInt64 * ((m.2.2.2 (pq p 35) (W + 1)).toInt32).toInt64)
      · rw [show decide (I 105 < (100 : Int32)) = false from rfl, br_fq, val_m, bnd_so, show decide (I 10 = (10 : Int32)) = true from rfl, br_tq]
        unfold hb_Ma_arithmetic_69 hb_Ma_arithmetic_74
        rw [show decide ((1 : Int32) = 0) = false from rfl, br_fq, br_fq, d1]
        by_cases z0 : (m.2.2.2 (pq p 35) (W + 1)).toInt32 = 0
        · rw [decide_eq_true z0, br_tq, decide_eq_true (z64.mpr z0), br_tq]
          exact no
        · have z1 : ¬ ((m.2.2.2 (pq p 35) (W + 1)).toInt32).toInt64 = 0 := fun z => z0 (z64.mp z)
          rw [decide_eq_false z0, br_fq, decide_eq_false z1, br_fq]
          have q1 : hb_Ma_arithmetic_99 N () m p (I 10) (((m.2.2.2 (pq p 35) W).toInt32).toInt64) (((m.2.2.2 (pq p 35) (W + 1)).toInt32).toInt64) = hb_Ma_arithmetic_208 N () m p (((m.2.2.2 (pq p 35) W).toInt32).toInt64 / ((m.2.2.2 (pq p 35) (W + 1)).toInt32).toInt64) := by
            unfold hb_Ma_arithmetic_99
            rw [show decide (I 10 = (10 : Int32)) = true from rfl, br_tq, d1, decide_eq_false z1, br_fq, decide_eq_true (p := ¬ ((m.2.2.2 (pq p 35) (W + 1)).toInt32).toInt64 = 0) z1, ck_t]
            rfl
          have q2 : ∀ u : MS, fb_M_twoRun_219 N () u (I 105) (m.2.2.2 (pq p 35) (W + 1)) (m.2.2.2 (pq p 35) W) = fb_M_twoRun_295 N () u (((m.2.2.2 (pq p 35) W).toInt32).toInt64 / ((m.2.2.2 (pq p 35) (W + 1)).toInt32).toInt64) := fun u => by
            unfold fb_M_twoRun_219
            rw [val_m, bnd_so, val_m, bnd_so, show decide (I 105 = (18 : Int32)) = false from rfl, br_fq, show decide (I 105 = (19 : Int32)) = false from rfl, br_fq, show decide (I 105 = (20 : Int32)) = false from rfl, br_fq, show decide (I 105 = (105 : Int32)) = true from rfl, br_tq, decide_eq_true (p := ¬ ((m.2.2.2 (pq p 35) (W + 1)).toInt32).toInt64 = 0) z1, ck_t]
          rw [q1, q2]
          exact fin _
      · rw [show decide (I 113 < (100 : Int32)) = false from rfl, br_fq, val_m, bnd_so, show decide (I 18 = (10 : Int32)) = false from rfl, br_fq, show decide (I 18 = (18 : Int32)) = true from rfl, br_tq]
        unfold hb_Ma_arithmetic_69 hb_Ma_arithmetic_74
        rw [show decide ((1 : Int32) = 0) = false from rfl, br_fq, br_fq, d1]
        by_cases z0 : (m.2.2.2 (pq p 35) (W + 1)).toInt32 = 0
        · rw [decide_eq_true z0, br_tq, decide_eq_true (z64.mpr z0), br_tq]
          exact no
        · have z1 : ¬ ((m.2.2.2 (pq p 35) (W + 1)).toInt32).toInt64 = 0 := fun z => z0 (z64.mp z)
          rw [decide_eq_false z0, br_fq, decide_eq_false z1, br_fq]
          have q1 : hb_Ma_arithmetic_99 N () m p (I 18) (((m.2.2.2 (pq p 35) W).toInt32).toInt64) (((m.2.2.2 (pq p 35) (W + 1)).toInt32).toInt64) = hb_Ma_arithmetic_208 N () m p (((m.2.2.2 (pq p 35) W).toInt32).toInt64 - ((m.2.2.2 (pq p 35) W).toInt32).toInt64 / ((m.2.2.2 (pq p 35) (W + 1)).toInt32).toInt64 * ((m.2.2.2 (pq p 35) (W + 1)).toInt32).toInt64) := by
            unfold hb_Ma_arithmetic_99
            rw [show decide (I 18 = (10 : Int32)) = false from rfl, br_fq, show decide (I 18 = (33 : Int32)) = false from rfl, br_fq, show decide (I 18 = (34 : Int32)) = false from rfl, br_fq, show decide (I 18 = (35 : Int32)) = false from rfl, br_fq, d1, decide_eq_false z1, br_fq, decide_eq_true (p := ¬ ((m.2.2.2 (pq p 35) (W + 1)).toInt32).toInt64 = 0) z1, ck_t]
            rfl
          have q2 : ∀ u : MS, fb_M_twoRun_219 N () u (I 113) (m.2.2.2 (pq p 35) (W + 1)) (m.2.2.2 (pq p 35) W) = fb_M_twoRun_295 N () u (((m.2.2.2 (pq p 35) W).toInt32).toInt64 - ((m.2.2.2 (pq p 35) W).toInt32).toInt64 / ((m.2.2.2 (pq p 35) (W + 1)).toInt32).toInt64 * ((m.2.2.2 (pq p 35) (W + 1)).toInt32).toInt64) := fun u => by
            unfold fb_M_twoRun_219
            rw [val_m, bnd_so, val_m, bnd_so, show decide (I 113 = (18 : Int32)) = false from rfl, br_fq, show decide (I 113 = (19 : Int32)) = false from rfl, br_fq, show decide (I 113 = (20 : Int32)) = false from rfl, br_fq, show decide (I 113 = (105 : Int32)) = false from rfl, br_fq, decide_eq_true (p := ¬ ((m.2.2.2 (pq p 35) (W + 1)).toInt32).toInt64 = 0) z1, ck_t]
          rw [q1, q2]
          exact fin _
    · rw [dz _ (so_r _) s0, br_fq, br_fq, e32]
      exact no
  · rw [dz _ (so_r _) s1, br_fq, br_fq, e32]
    exact no
end
end
section
set_option maxRecDepth 100000
section
variable {α β : Type} {b : Int → Nat → Nat → Prop} {N p k l U B W Y j a n na : Nat} {m w m2 w2 m3 w3 : MS} {t x : Int64} {nb : Nat → Nat} {Hs Os : Nat → List Nat} {y : Option (Nat × Nat × Nat)} {Q : MS → α → MS → β → Prop} {K1 : MS → Option (MS × α)} {K2 : MS → Option (MS × β)} {v s o kk : Int} {ow kd ow' kd' fa' : Nat → Nat} {Fv Fv' : Int64 → Int64 → Prop} {P P' : Int64 → Prop} {r r' : Int32}
def cmpRs (N : Nat) (w : MS) (s : Int) (r : Int32) : Option (MS × Unit) := br (decide (I s = 12)) (br (decide (r = 0)) (fb_M_twoRun_138 N () w 1) (fb_M_twoRun_138 N () w 0)) (br (decide (I s = 13)) (br (decide (r = 0)) (fb_M_twoRun_138 N () w 0) (fb_M_twoRun_138 N () w 1)) (br (decide (I s = 14)) (br (decide (0 ≤ r)) (fb_M_twoRun_138 N () w 0) (fb_M_twoRun_138 N () w 1)) (br (decide (I s = 15)) (br (decide (0 < r)) (fb_M_twoRun_138 N () w 0) (fb_M_twoRun_138 N () w 1)) (br (decide (I s = 16)) (br (decide (r ≤ 0)) (fb_M_twoRun_138 N () w 0) (fb_M_twoRun_138 N () w 1)) (br (decide (r < 0)) (fb_M_twoRun_138 N () w 0) (fb_M_twoRun_138 N () w 1))))))
theorem two_cm (h : s = 12 ∨ s = 13 ∨ s = 14 ∨ s = 15 ∨ s = 16 ∨ s = 17) : fm_M_twoRun N w (I s) = bnd (fm_M_take N w) (fun u16 r16 => bnd (fm_M_take N u16) (fun u17 r17 => bnd (fm_M_order N u17 r17 r16) (fun u18 r18 => cmpRs N u18 s r18))) := by
  rcases h with rfl | rfl | rfl | rfl | rfl | rfl <;> rfl
theorem sgn_d (h : SGN r r') : decide (r = 0) = decide (r' = 0) ∧ decide (r < 0) = decide (r' < 0) ∧ decide (0 ≤ r) = decide (0 ≤ r') ∧ decide (r ≤ 0) = decide (r' ≤ 0) ∧ decide (0 < r) = decide (0 < r') := by
  have z0 : (0 : Int32).toInt = 0 := rfl
  have e0 : ∀ z : Int32, z = 0 ↔ z.toInt = 0 := fun z => by rw [← z0]; exact Int32.toInt_inj.symm
  have h1 : r.toInt < 0 ↔ r'.toInt < 0 := by
    have := h.1
    rw [Int32.lt_iff_toInt_lt, Int32.lt_iff_toInt_lt, z0] at this
    exact this
  have h2 : r.toInt = 0 ↔ r'.toInt = 0 := by
    have := h.2
    rw [e0, e0] at this
    exact this
  refine ⟨decide_eq_decide.mpr h.2, decide_eq_decide.mpr h.1, decide_eq_decide.mpr ?_, decide_eq_decide.mpr ?_, decide_eq_decide.mpr ?_⟩
  · rw [Int32.le_iff_toInt_le, Int32.le_iff_toInt_le, z0]; omega
  · rw [Int32.le_iff_toInt_le, Int32.le_iff_toInt_le, z0]; omega
  · rw [Int32.lt_iff_toInt_lt, Int32.lt_iff_toInt_lt, z0]; omega
theorem cmpz_e (hs : (s = 12 ∧ kk = 39) ∨ (s = 13 ∧ kk = 40) ∨ (s = 14 ∧ kk = 31) ∨ (s = 15 ∧ kk = 41) ∨ (s = 16 ∧ kk = 32) ∨ (s = 17 ∧ kk = 42)) (h : SGN r r') : ∃ z : Int32, (z = 0 ∨ z = 1) ∧ hm_Ma_holds N m (I kk) r = some (m, z) ∧ cmpRs N w s r' = fb_M_twoRun_138 N () w z := by
  obtain ⟨d1, d2, d3, d4, d5⟩ := sgn_d h
  rcases hs with ⟨rfl, rfl⟩ | ⟨rfl, rfl⟩ | ⟨rfl, rfl⟩ | ⟨rfl, rfl⟩ | ⟨rfl, rfl⟩ | ⟨rfl, rfl⟩
  · cases e : decide (r' = 0) with
    | true => exact ⟨1, Or.inr rfl, by show br (decide (r = 0)) _ _ = _; rw [d1, e]; rfl, by show br (decide (r' = 0)) _ _ = _; rw [e]; rfl⟩
    | false => exact ⟨0, Or.inl rfl, by show br (decide (r = 0)) _ _ = _; rw [d1, e]; rfl, by show br (decide (r' = 0)) _ _ = _; rw [e]; rfl⟩
  · cases e : decide (r' = 0) with
    | true => exact ⟨0, Or.inl rfl, by show br (decide (r = 0)) _ _ = _; rw [d1, e]; rfl, by show br (decide (r' = 0)) _ _ = _; rw [e]; rfl⟩
    | false => exact ⟨1, Or.inr rfl, by show br (decide (r = 0)) _ _ = _; rw [d1, e]; rfl, by show br (decide (r' = 0)) _ _ = _; rw [e]; rfl⟩
  · cases e : decide (0 ≤ r') with
    | true => exact ⟨0, Or.inl rfl, by show br (decide (0 ≤ r)) _ _ = _; rw [d3, e]; rfl, by show br (decide (0 ≤ r')) _ _ = _; rw [e]; rfl⟩
    | false => exact ⟨1, Or.inr rfl, by show br (decide (0 ≤ r)) _ _ = _; rw [d3, e]; rfl, by show br (decide (0 ≤ r')) _ _ = _; rw [e]; rfl⟩
  · cases e : decide (0 < r') with
    | true => exact ⟨0, Or.inl rfl, by show br (decide (0 < r)) _ _ = _; rw [d5, e]; rfl, by show br (decide (0 < r')) _ _ = _; rw [e]; rfl⟩
    | false => exact ⟨1, Or.inr rfl, by show br (decide (0 < r)) _ _ = _; rw [d5, e]; rfl, by show br (decide (0 < r')) _ _ = _; rw [e]; rfl⟩
  · cases e : decide (r' ≤ 0) with
    | true => exact ⟨0, Or.inl rfl, by show br (decide (r ≤ 0)) _ _ = _; rw [d4, e]; rfl, by show br (decide (r' ≤ 0)) _ _ = _; rw [e]; rfl⟩
    | false => exact ⟨1, Or.inr rfl, by show br (decide (r ≤ 0)) _ _ = _; rw [d4, e]; rfl, by show br (decide (r' ≤ 0)) _ _ = _; rw [e]; rfl⟩
  · cases e : decide (r' < 0) with
    | true => exact ⟨0, Or.inl rfl, by show br (decide (r < 0)) _ _ = _; rw [d2, e]; rfl, by show br (decide (r' < 0)) _ _ = _; rw [e]; rfl⟩
    | false => exact ⟨1, Or.inr rfl, by show br (decide (r < 0)) _ _ = _; rw [d2, e]; rfl, by show br (decide (r' < 0)) _ _ = _; rw [e]; rfl⟩
theorem op_compare (hs : (s = 12 ∧ kk = 39) ∨ (s = 13 ∧ kk = 40) ∨ (s = 14 ∧ kk = 31) ∨ (s = 15 ∧ kk = 41) ∨ (s = 16 ∧ kk = 32) ∨ (s = 17 ∧ kk = 42)) (hpp : p < 24) (pl : PLs b p m w U B (W + 2) Y) (ru : RUs m w p j nb Hs Os y a n) (hW : W + 2 < 46000) (hl : F m (pq p 45) = ((l : Nat) : Int)) (hl2 : W + 2 ≤ l ∧ l ≤ 1000000) (pt : PTQ m p U ow kd Fv P B (W + 2) Y) (cx : CTX Fv P m) (xc : CX w p (hp w p) U ow' kd' Fv' P' (W + 2) B Y) (hF' : FVH Fv') (hA : ATf m w fa' na) (ha : a + 1 < 24000) (hn : n < 100000) (ht : A m 23 (a + 1) = kk) (hd : A w 25 n = s) (hN : 200000 ≤ N) (cr : ∃ f, CRs (A m 23) (ROs w) (w.2.2.2 34) f y (a + 2) (n + 1) (Hs j) (Os j))
    (c : ∀ m3 w3, PLs b p m3 w3 U B (W + 1) Y → RUs m3 w3 p j nb Hs Os y (a + 2) (n + 1) → FGm p m m3 → FGw p j w w3 → PP Q (K1 m3) (K2 w3)) : PP Q (bnd (hm_Ma_value N m p (I 8)) (fun u _ => K1 u)) (bnd (fm_M_one N w (I ((n : Nat) : Int)) (I 6)) (fun u _ => K2 u)) := by
  obtain ⟨⟨fa, ct⟩, ⟨r2, r3⟩, -, ⟨r5, r6⟩, r7, ⟨r8, r9, r10⟩, r11, r12, r13⟩ := id ru
  have hj : j < 60 := fa.1.2.2
  have hU := pt.1.2.1
  have be0 : hm_Fr_below N m p 0 = some (m, m.2.2.2 (pq p 35) (W + 1)) := by
    have := below_e (N := N) (x := 0) (k := 0) (W := W + 2) (l := l) pl.2.2.1.1 hl hl2.1 hl2.2 rfl (by omega)
    rw [show W + 2 - 1 - 0 = W + 1 by omega] at this
    exact this
  have be1 : hm_Fr_below N m p 1 = some (m, m.2.2.2 (pq p 35) W) := by
    have := below_e (N := N) (x := 1) (k := 1) (W := W + 2) (l := l) pl.2.2.1.1 hl hl2.1 hl2.2 rfl (by omega)
    rw [show W + 2 - 1 - 1 = W by omega] at this
    exact this
  have aw : ∀ K i, K ≠ 98 → A (wa w 98 (60 * p + j) ((n + 1 : Nat) : Int)) K i = A w K i := fun K i h => by rw [wa_rne h]
  rw [val8, one_6, show I ((n : Nat) : Int) + 1 = I ((n + 1 : Nat) : Int) from addN, I_F' r2, show I ((a : Nat) : Int) + 1 = I ((a + 1 : Nat) : Int) from addN, Co_e (k := a + 1) rfl ha, bnd_so, ht, be1, bnd_so, be0, bnd_so, bb_e, bb_e]
  refine r_bnd (pk_mo (goto_r (N := N) (n := ((n + 1 : Nat) : Int)) hpp r11 fa.1.2.1 hj) (fun w2 _ h => ?_))
  subst h
  refine rb_ck (fun _ => ?_)
  rw [tnI (n := n) rfl (by omega), I_A' ((aw 25 n (by omega)).trans hd), two_cm (by omega), bb_e, bb_e]
  have h92 : A (wa w 98 (60 * p + j) ((n + 1 : Nat) : Int)) 92 p = ((W + 1 + 1 : Nat) : Int) := by rw [aw 92 p (by omega)]; exact pl.2.2.1.2.1
  refine r_bnd (pk_mo (take_r (N := N) (W := W + 1) (w := wa w 98 (60 * p + j) ((n + 1 : Nat) : Int)) hpp r11 h92 (by omega)) (fun w3 x0 h => ?_))
  obtain ⟨rfl, rfl⟩ := h
  rw [bb_e]
  have h92b : A (wa (wa w 98 (60 * p + j) ((n + 1 : Nat) : Int)) 92 p ((W + 1 : Nat) : Int)) 92 p = ((W + 1 : Nat) : Int) := by rw [wa_sm (by omega) (by omega)]
  refine r_bnd (pk_mo (take_r (N := N) (W := W) (w := wa (wa w 98 (60 * p + j) ((n + 1 : Nat) : Int)) 92 p ((W + 1 : Nat) : Int)) hpp r11 h92b (by omega)) (fun w3 x1 h => ?_))
  obtain ⟨rfl, rfl⟩ := h
  rw [bb_e]
  have tp : ∀ i, i < W + 2 → TPb b U ow kd P U ow' kd' P' (m.2.2.2 (pq p 35) i) (w.2.2.2 91 (46000 * p + i)) := fun i hi => ⟨pl.2.2.1.2.2 i hi, pt.2.2.1.2 i hi, xc.2.2.2.2.2.2.2.1 i hi⟩
  have op := order_pp (N := N) (v := pq p 2) (m := m) (w := wa (wa (wa w 98 (60 * p + j) ((n + 1 : Nat) : Int)) 92 p ((W + 1 : Nat) : Int)) 92 p ((W : Nat) : Int)) (p := p) (h' := hp w p) (n0 := U) (n0' := U) ⟨fun c => pq_n (by omega) c.symm, fun c => pq_n (by omega) c.symm⟩ rfl rfl pt.1.2.2 hU cx.1 cx.2.1 cx.2.2.1 xc.2.1 hU (by omega) r11 hF' pl.1.2.1 (show ATf m (wa (wa (wa w 98 (60 * p + j) ((n + 1 : Nat) : Int)) 92 p ((W + 1 : Nat) : Int)) 92 p ((W : Nat) : Int)) fa' na from hA) hN (tp W (by omega)) (tp (W + 1) (by omega))
  refine pp_bb (pp_mo op (fun m4 q4 w4 q5 h => ?_))
  obtain ⟨⟨f4, g4⟩, sg⟩ := h
  obtain ⟨z, hz, hz1, hz2⟩ := cmpz_e (N := N) (m := m4) (w := w4) hs sg
  rw [hz1, bnd_so, hz2]
  have i4 : ∀ d, m4.1 d = m.1 d := fun d => f4.1 d (by simp)
  have e26 : F m4 (pq p 26) = ((W + 2 : Nat) : Int) := by
    show (m4.1 (pq p 26)).toInt = _
    rw [i4]; exact pl.2.2.1.1
  have ff : FGm p m m4 := FR.mo f4 (by simp) (by simp) (by simp) (by simp)
  have gg : FGw p j w w4 := FGw.tr (FGw.tr (FGw.tr FGw.goto FGw.w92) FGw.w92) ⟨FR.mo g4 (by simp) (by simp) (by simp) (by simp), fun _ _ => ⟨FR.A g4 (by simp), by rw [g4.2.2.1 90 (by simp)], FR.A g4 (by simp)⟩, fun _ _ => FR.A g4 (by simp), fun i _ => by rw [g4.2.2.2 88 (by simp)], fun i _ => by rw [g4.2.2.2 91 (by simp)], fun i _ => by rw [g4.2.2.2 93 (by simp)], fun i _ => by rw [g4.2.2.2 107 (by simp)]⟩
  have pl4 : PLs b p (wi m4 (pq p 26) ((W : Nat) : Int)) w4 U B W Y := by
    have q1 := PLs_drop (k := 1) (W := W + 1) (PLs_98 (i := 60 * p + j) (z := ((n + 1 : Nat) : Int)) pl) (by omega)
    have q2 := PLs_drop (k := 1) (W := W) q1 (by omega)
    refine PLs_cg q2 (fun d hd => ?_) (fun i _ => by show m4.2.2.2 (pq p 2) i = _; rw [f4.2.2.2 _ (by simp; unfold pq; omega)]; rfl) (fun i _ => by show m4.2.2.2 (pq p 33) i = _; rw [f4.2.2.2 _ (by simp; unfold pq; omega)]; rfl) (fun i _ => by show m4.2.2.2 (pq p 35) i = _; rw [f4.2.2.2 _ (by simp; unfold pq; omega)]; rfl) (fun i _ => by show m4.2.2.2 (pq p 6) i = _; rw [f4.2.2.2 _ (by simp; unfold pq; omega)]; rfl) (fun K hK => by rw [g4.2.2.1 K (by simp)]) (fun i _ => by rw [g4.2.2.2 88 (by simp)]) (fun i _ => by rw [g4.2.2.2 93 (by simp)]) (fun i _ => by rw [g4.2.2.2 91 (by simp)]) (fun i _ => by rw [g4.2.2.2 107 (by simp)])
    show (if pq p d = pq p 26 then _ else m4.1 (pq p d)) = (if pq p d = pq p 26 then _ else if pq p d = pq p 26 then _ else m.1 (pq p d))
    by_cases e : pq p d = pq p 26
    · rw [if_pos e, if_pos e]
    · rw [if_neg e, if_neg e, if_neg e, i4]
  have e5 : F (wi m4 (pq p 26) ((W : Nat) : Int)) 1105 = ((a : Nat) : Int) := by
    rw [wi_ne (pq_n (by omega))]
    show (m4.1 1105).toInt = _
    rw [i4]; exact r2
  have e45 : F (wi m4 (pq p 26) ((W : Nat) : Int)) (pq p 45) = ((l : Nat) : Int) := by
    rw [wi_ne (pq_inj (by omega))]
    show (m4.1 (pq p 45)).toInt = _
    rw [i4]; exact hl
  have w133 : F w4 133 = ((p : Nat) : Int) := by rw [FR.F gg.1 (by simp)]; exact r11
  have h98 : A w4 98 (60 * p + j) = ((n + 1 : Nat) : Int) := by
    rw [FR.A g4 (by simp), wa_rne (by omega), wa_rne (by omega), wa_sm (by omega) (by omega)]
  have fin : ∀ d : Int, (d = 0 ∨ d = 1) → PP Q (bnd (bnd (hm_Fr_push N (wi m4 (pq p 26) ((W : Nat) : Int)) p (mk 1 d)) (fun u11 _ => lt (upI u11 1105 ((u11.1 1105) + I ((2 : Nat) : Int))) (fun w14 => some (w14, ())))) (fun u (_ : Unit) => K1 u)) (bnd (bnd (fm_M_put N w4 (mk 1 d)) (fun u28 _ => some (u28, ()))) (fun u (_ : Unit) => K2 u)) := fun d hd2 => push_pp (N := N) (a2 := a + 2) (n2 := n + 1) (dz := 2) (l := l) (W := W) (t := mk 1 d) (x := mk 1 d) hpp ru ⟨by omega, hl, by omega, hl2.2⟩ (lit_b (by omega) (fun h => by omega) ⟨by omega, by omega⟩) (FGm.tr ff FGm.drop) gg pl4 e45 w133 h98 e5 rfl (by omega) cr c
  unfold hm_Ma_answer hb_Ma_answer_0 fb_M_twoRun_138 fb_M_twoRun_327
  rcases hz with rfl | rfl
  · have fin1 := fin 1 (Or.inr rfl)
    simp only [bb_e, bnd_so] at fin1
    rw [show hm_Ma_truth N m4 0 = some (m4, mk 1 1) from rfl, bnd_so, truth0, show (2 : Int32) = I 2 from rfl, drop_e (W := W + 2) (k := 2) (x := 2) e26 rfl (by omega), bnd_so, Nat.add_sub_cancel]
    simp only [bb_e, bnd_so]
    exact fin1
  · have fin0 := fin 0 (Or.inl rfl)
    simp only [bb_e, bnd_so] at fin0
    rw [show hm_Ma_truth N m4 1 = some (m4, mk 1 0) from rfl, bnd_so, truth1, show (2 : Int32) = I 2 from rfl, drop_e (W := W + 2) (k := 2) (x := 2) e26 rfl (by omega), bnd_so, Nat.add_sub_cancel]
    simp only [bb_e, bnd_so]
    exact fin0
end
end
section
set_option maxRecDepth 100000
section
variable {α β : Type} {b : Int → Nat → Nat → Prop} {N p k l U B W Y j a n : Nat} {m w m2 w2 m3 w3 : MS} {t x : Int64} {nb : Nat → Nat} {Hs Os : Nat → List Nat} {y : Option (Nat × Nat × Nat)} {Q : MS → α → MS → β → Prop} {K1 : MS → Option (MS × α)} {K2 : MS → Option (MS × β)} {v : Int}
theorem neg_32 (v : Int32) : (-(v.toInt64)).toInt32 = -v := by simp
theorem neg_ti (v : Int32) : (-v).toInt = if v.toInt = -2147483648 then -2147483648 else - v.toInt := by
  have h := ti_rng v
  rw [Int32.toInt_neg]
  by_cases e : v.toInt = -2147483648
  · rw [if_pos e, e]
    decide
  · rw [if_neg e]
    exact Int.bmod_eq_of_le (by show -((4294967296 : Int) / 2) ≤ _; omega) (by show _ < ((4294967296 : Int) + 1) / 2; omega)
theorem neg_tl (v : Int32) : (-(v.toInt64)).toInt = - v.toInt := by
  have h := ti_rng v
  rw [Int64.toInt_neg, Int32.toInt_toInt64]
  exact Int.bmod_eq_of_le (by show -((18446744073709551616 : Int) / 2) ≤ _; omega) (by show _ < ((18446744073709551616 : Int) + 1) / 2; omega)
theorem neg_64 (v : Int32) : lg_cmp (-(v.toInt64)) (((-(v.toInt64)).toInt32).toInt64) = 0 ↔ ¬ (v = -v ∧ v ≠ 0) := by
  have h := ti_rng v
  have z0 : (0 : Int32).toInt = 0 := rfl
  rw [lgc_eq, neg_32, ← Int64.toInt_inj, neg_tl, Int32.toInt_toInt64, neg_ti, ← Int32.toInt_inj (x := v) (y := -v), neg_ti, Ne, ← Int32.toInt_inj (x := v) (y := 0), z0]
  by_cases e : v.toInt = -2147483648
  · rw [if_pos e, e]
    decide
  · rw [if_neg e]
    constructor
    · intro _ c
      omega
    · intro _
      rfl
end
end
section
set_option maxRecDepth 100000
def PCq (C : Nat → Int) : Nat → Nat → Nat → Prop
  | 0, _, _ => False
  | f + 1, i, j => (C i = 1 ∧ j = i + 3) ∨ (C i = 2 ∧ ∃ l : Nat, C (i + 1) = ((l : Nat) : Int) ∧ j = i + 2 + l) ∨ ((C i = 3 ∨ C i = 4) ∧ j = i + 2) ∨ (C i = 5 ∧ j = i + 1) ∨ (C i = 6 ∧ ∃ n : Nat, C (i + 1) = ((n : Nat) : Int) ∧ n ≤ 8 ∧ ∃ ci : Nat → Nat, ci 0 = i + 2 ∧ ci n = j ∧ ∀ k, k < n → PCq C f (ci k) (ci (k + 1))) ∨ (C i = 7 ∧ ∃ h, PCq C f (i + 1) h ∧ PCq C f h j)
def DMr (C : Nat → Int) (s : Nat → Int64) : Nat → Nat → Nat → Prop
  | 0, i, idx => i + 2 < 24000 ∧ ((C i = 7 ∧ so (s idx) ≠ 7) ∨ (C i = 1 ∧ s idx ≠ mk (C (i + 1)) (C (i + 2))))
  | r + 1, i, idx => ∃ f j, PCq C f i j ∧ j < 24000 ∧ 0 < idx ∧ DMr C s r j (idx - 1)
section
variable {C : Nat → Int} {R : Nat → Nat → Int} {J : Nat → Int64} {H O O2 : List Nat} {f g i p j q N M r idx cnt k : Nat} {m m2 m3 : MS} {t : Int64} {s s2 : Nat → Int64}
theorem PCq_up : ∀ {f i j : Nat}, PCq C f i j → PCq C (f + 1) i j
  | 0, _, _, z => z.elim
  | f + 1, i, j, z => by
    rcases z with z | z | z | z | ⟨z, n, z1, z2, ci, z3, z4, z5⟩ | ⟨z, h, z1, z2⟩
    · exact Or.inl z
    · exact Or.inr (Or.inl z)
    · exact Or.inr (Or.inr (Or.inl z))
    · exact Or.inr (Or.inr (Or.inr (Or.inl z)))
    · exact Or.inr (Or.inr (Or.inr (Or.inr (Or.inl ⟨z, n, z1, z2, ci, z3, z4, fun k hk => PCq_up (z5 k hk)⟩))))
    · exact Or.inr (Or.inr (Or.inr (Or.inr (Or.inr ⟨z, h, PCq_up z1, PCq_up z2⟩))))
theorem PCq_le (d : Nat) (h : PCq C f i j) : PCq C (f + d) i j := by
  induction d with
  | zero => exact h
  | succ d ih => exact PCq_up ih
theorem PCq_lt : ∀ {f i j : Nat}, PCq C f i j → i < j
  | 0, _, _, z => z.elim
  | f + 1, i, j, z => by
    rcases z with ⟨-, z⟩ | ⟨-, l, -, z⟩ | ⟨-, z⟩ | ⟨-, z⟩ | ⟨z, n, z1, z2, ci, z3, z4, z5⟩ | ⟨z, h, z1, z2⟩
    · omega
    · omega
    · omega
    · omega
    · have := up_le (c := ci) (n := n) (fun k hk => Nat.le_of_lt (PCq_lt (z5 k hk))) n 0 (by omega)
      rw [Nat.zero_add, z4, z3] at this
      omega
    · have := PCq_lt z1
      have := PCq_lt z2
      omega
theorem PTs_PC : ∀ {f i p j : Nat} {O O2 : List Nat}, PTs C R J H f i p O j O2 → ∃ g, PCq C g i j
  | 0, _, _, _, _, _, z => z.elim
  | f + 1, i, p, j, O, O2, z => by
    rcases z with ⟨-, z1, z, -⟩ | ⟨-, z1, z, -⟩ | ⟨-, z1, z, -⟩ | ⟨-, z1, z, -⟩ | ⟨-, z1, -, l, ⟨s0, b, -, -, -, z2, -⟩, z⟩ | ⟨-, z1, z2, n, ⟨z3, z4⟩, ci, cp, co, c0, cn, -, -, -, -, z⟩ | ⟨-, n, -, ci, cp, co, c0, -, -, z, e⟩
    · exact ⟨1, Or.inr (Or.inr (Or.inr (Or.inl ⟨z1, z⟩)))⟩
    · exact ⟨1, Or.inr (Or.inr (Or.inl ⟨Or.inr z1, z⟩))⟩
    · exact ⟨1, Or.inr (Or.inr (Or.inl ⟨Or.inl z1, z⟩))⟩
    · exact ⟨1, Or.inl ⟨z1, z⟩⟩
    · exact ⟨1, Or.inr (Or.inl ⟨z1, l, z2, z⟩)⟩
    · have hg : ∀ d, d ≤ n → ∃ g, ∀ k, k < d → PCq C g (ci k) (ci (k + 1)) := by
        intro d
        induction d with
        | zero => intro _; exact ⟨0, fun k hk => by omega⟩
        | succ d ih =>
          intro hd
          obtain ⟨g1, h1⟩ := ih (by omega)
          obtain ⟨g2, h2⟩ := PTs_PC (z d (by omega)).1
          refine ⟨g1 + g2, fun k hk => ?_⟩
          by_cases e : k = d
          · subst e
            rw [Nat.add_comm]
            exact PCq_le g1 h2
          · exact PCq_le g2 (h1 k (by omega))
      obtain ⟨g, hg⟩ := hg n (Nat.le_refl _)
      exact ⟨g + 1, Or.inr (Or.inr (Or.inr (Or.inr (Or.inl ⟨z1, n, by rw [z2, z3], z4, ci, c0, cn, hg⟩))))⟩
    · have last : ∃ g, PCq C g (ci n) j := by
        rcases e with ⟨-, e1, -, -, e, -⟩ | ⟨-, -, -, e⟩
        · exact ⟨1, Or.inl ⟨e1, e⟩⟩
        · exact PTs_PC e
      have hg : ∀ d, d ≤ n → ∃ g, PCq C g (ci (n - d)) j := by
        intro d
        induction d with
        | zero => intro _; exact last
        | succ d ih =>
          intro hd
          obtain ⟨g1, h1⟩ := ih (by omega)
          obtain ⟨z1, z2, -⟩ := z (n - (d + 1)) (by omega)
          obtain ⟨g2, h2⟩ := PTs_PC z2
          rw [show n - (d + 1) + 1 = n - d by omega] at h2
          refine ⟨g1 + g2 + 1, Or.inr (Or.inr (Or.inr (Or.inr (Or.inr ⟨z1, ci (n - d), ?_, PCq_le g2 h1⟩))))⟩
          rw [Nat.add_comm]
          exact PCq_le g1 h2
      obtain ⟨g, h⟩ := hg n (Nat.le_refl _)
      rw [Nat.sub_self, c0] at h
      exact ⟨g, h⟩
theorem DMr_ag : ∀ {r i idx : Nat}, DMr C s r i idx → (∀ k, k ≤ idx → s2 k = s k) → DMr C s2 r i idx
  | 0, i, idx, h, e => by
    unfold DMr at h ⊢
    rw [e idx (Nat.le_refl _)]
    exact h
  | r + 1, i, idx, ⟨f, j, h1, h0, h2, h3⟩, e => ⟨f, j, h1, h0, h2, DMr_ag h3 (fun k hk => e k (by omega))⟩
theorem DMr_app {ci : Nat → Nat} {n : Nat} (h : ∀ k, k < n → PCq C f (ci k) (ci (k + 1))) (hb : ∀ k, k ≤ n → ci k < 24000) (hd : DMr C s r (ci n) idx) : ∀ d, d ≤ n → DMr C s (r + d) (ci (n - d)) (idx + d) := by
  intro d
  induction d with
  | zero => intro _; exact hd
  | succ d ih =>
    intro hd2
    have := h (n - (d + 1)) (by omega)
    rw [show n - (d + 1) + 1 = n - d by omega] at this
    exact ⟨f, ci (n - d), this, hb _ (by omega), by omega, ih (by omega)⟩
end
end
section
set_option maxRecDepth 100000
section
variable {b b2 b3 : Int → Nat → Nat → Prop} {N p n B W Y U k e ee : Nat} {ow kd ow' kd' : Nat → Nat} {Fv Fv' : Int64 → Int64 → Prop} {P P' : Int64 → Prop} {m w m2 w2 m3 w3 : MS} {x t : Int64}
theorem endsBy_e (h9 : F m (pq p 9) ≠ 3) (hee : F m 955 = ((ee : Nat) : Int) ∧ ee < 24) {v : Int} : hm_Wl_endsBy N m p (I v) = some (enS m p (mk 1 v) p ee, ()) := by
  unfold hm_Wl_endsBy hb_Wl_endsBy_0
  rw [show (1 : Int32) = I 1 from rfl, e_make, bnd_so, endsW_e h9 hee.1 hee.2, bnd_so]
theorem XRm_F (a : XRm p m m2) {d : Nat} (h4 : d ≠ 4) (h5 : d ≠ 5) : m2.1 (pq p d) = m.1 (pq p d) := a.1 _ (by
  simp only [List.mem_cons, List.not_mem_nil, or_false]
  intro c
  rcases c with c | c
  · exact pq_inj h4 c
  · exact pq_inj h5 c)
theorem XRm_G (a : XRm p m m2) {d : Nat} (h : d < 2000) : m2.1 d = m.1 d := a.1 _ (by
  simp only [List.mem_cons, List.not_mem_nil, or_false]
  intro c
  rcases c with c | c
  · exact pq_n h c
  · exact pq_n h c)
theorem room_e (q : MS → Int32 → Prop) (hw : PK (fun m2 r => (r = 0 ∨ r = 1) ∧ XRm p m m2 ∧ q m2 r) (hm_Pr_want N m p (I ((k : Nat) : Int)))) (h9 : F m (pq p 9) ≠ 3) (hee : F m 955 = ((ee : Nat) : Int) ∧ ee < 24) : PK (fun m3 r => ∃ m2, XRm p m m2 ∧ q m2 r ∧ ((r = 1 ∧ m3 = m2) ∨ (r = 0 ∧ m3 = enS m2 p (mk 1 20) p ee))) (hm_Ma_room N m p (I ((k : Nat) : Int))) := by
  unfold hm_Ma_room hb_Ma_room_0
  refine pk_bnd (pk_mo hw (fun m2 r h => ?_))
  obtain ⟨h1, h2, h3⟩ := h
  rcases h1 with rfl | rfl
  · rw [show decide ((0 : Int32) = 0) = true from rfl, br_tq]
    have e9 : F m2 (pq p 9) ≠ 3 := by
      show (m2.1 (pq p 9)).toInt ≠ 3
      rw [XRm_F h2 (by omega) (by omega)]
      exact h9
    have e55 : F m2 955 = ((ee : Nat) : Int) := by
      show (m2.1 955).toInt = _
      rw [XRm_G h2 (by omega)]
      exact hee.1
    rw [show (20 : Int32) = I 20 from rfl, endsBy_e e9 ⟨e55, hee.2⟩, bnd_so]
    exact pk_ck (fun _ => pk_some ⟨m2, h2, h3, Or.inr ⟨rfl, rfl⟩⟩)
  · rw [show decide ((1 : Int32) = 0) = false from rfl, br_fq]
    exact pk_ck (fun _ => pk_some ⟨m2, h2, h3, Or.inl ⟨rfl, rfl⟩⟩)
theorem want_nh (q : PTQ m p n ow kd Fv P B W Y) (cx : CTX Fv P m) {v : Int} (hv : 0 ≤ v ∧ v ≤ 100000) (hN : 2200000 ≤ N) (hW : W ≤ 1000000 ∧ B ≤ 100000 ∧ Y ≤ 30) : PK (fun m2 _ => ∀ i, i < W → ¬ isH (m.2.2.2 (pq p 35) i) → m2.2.2.2 (pq p 35) i = m.2.2.2 (pq p 35) i) (hm_Pr_want N m p (I v)) := by
  unfold hm_Pr_want hb_Pr_want_0
  have cl := pk_ok (clearHeap_x (N := N) q cx.1 cx.2.1 (by omega))
  have fin : ∀ m2 : MS, (∀ i, i < W → ¬ isH (m.2.2.2 (pq p 35) i) → m2.2.2.2 (pq p 35) i = m.2.2.2 (pq p 35) i) → PK (fun m2 (_ : Int32) => ∀ i, i < W → ¬ isH (m.2.2.2 (pq p 35) i) → m2.2.2.2 (pq p 35) i = m.2.2.2 (pq p 35) i) (hb_Pr_want_16 N () m2 p (I v)) := fun m2 h => by
    unfold hb_Pr_want_16 hb_Pr_want_33
    refine pk_br (fun _ => ?_) (fun _ => ?_)
    · exact pk_ck (fun _ => pk_some h)
    · exact pk_ck (fun _ => pk_some h)
  refine pk_br (fun _ => ?_) (fun _ => ?_)
  · exact fin m (fun _ _ _ => rfl)
  · refine pk_bnd (pk_mo cl (fun m2 _ h => fin m2 (fun i hi z => ?_)))
    obtain ⟨U, src, bs, -, -, -, -, hW2, -⟩ := h
    rcases hW2 i hi with c | c
    · exact c.2
    · exact absurd c.1 z
theorem room_pp (q : PTQ m p n ow kd Fv P B W Y) (cx : CTX Fv P m) (xc : CX w p (hp w p) n ow' kd' Fv' P' W B Y) (pl : PLs b p m w n B W Y) (h140 : F w 140 = -1) (hk : k ≤ 2000) (h9 : F m (pq p 9) ≠ 3) (hee : F m 955 = ((ee : Nat) : Int) ∧ ee < 24) (hN : 2200000 ≤ N) :
    PP (fun m2 r w2 r2 => (r = 1 ∧ r2 = 1 ∧ XRm p m m2 ∧ XRr p w w2 ∧ ∃ b2 U, PLs b2 p m2 w2 U B W Y ∧ U + k ≤ 500 ∧ (∃ ow2 kd2, PTQ m2 p U ow2 kd2 Fv P B W Y) ∧ (∃ ow2 kd2, CX w2 p (hp w2 p) U ow2 kd2 Fv' P' W B Y)) ∨ (r = 0 ∧ r2 = 0 ∧ ∃ m4, XRm p m m4 ∧ XRr p w w2 ∧ m2 = enS m4 p (mk 1 20) p ee ∧ m4.1 (pq p 5) = w2.2.2.1 90 p)) (hm_Ma_room N m p (I ((k : Nat) : Int))) (fm_M_wants N w (I ((p : Nat) : Int)) (I ((k : Nat) : Int))) := by
  have wp := want_pl (k := k) q cx xc pl (PLs_z pl (by rw [h140]; omega)) hk hN
  intro m2 r w2 r2 e1 e2
  have re := room_e (N := N) (p := p) (k := k) (m := m) (ee := ee) (fun m4 r4 => hm_Pr_want N m p (I ((k : Nat) : Int)) = some (m4, r4)) (fun m4 r4 hz => by
    obtain ⟨b2, U, a1, a3, a4, -⟩ := wp m4 r4 w2 r2 hz e2
    refine ⟨?_, a4, hz⟩
    rcases a3 with ⟨c, -⟩ | ⟨c, -⟩
    · exact Or.inl c
    · exact Or.inr c) h9 hee m2 r e1
  obtain ⟨m4, x1, hz, c⟩ := re
  obtain ⟨b2, U, a1, a3, a4, a5, a6, a7, -⟩ := wp m4 r w2 r2 hz e2
  rcases c with ⟨rfl, rfl⟩ | ⟨rfl, rfl⟩
  · rcases a3 with ⟨c1, -⟩ | ⟨-, c2, c3⟩
    · exact absurd c1 (by decide)
    · exact Or.inl ⟨rfl, c2, a4, a5, b2, U, a1, c3, a6, a7⟩
  · rcases a3 with ⟨-, c2⟩ | ⟨c1, -⟩
    · exact Or.inr ⟨rfl, c2, m4, a4, a5, rfl, a1.1.2.2⟩
    · exact absurd c1 (by decide)
theorem room_pz (q : PTQ m p n ow kd Fv P B (W + e) Y) (cx : CTX Fv P m) (xc : CX w p (hp w p) n ow' kd' Fv' P' W B Y) (pl : PLs b p (wi m (pq p 26) ((W : Nat) : Int)) w n B W Y) (hx : ∀ i, W ≤ i → i < W + e → ¬ isH (m.2.2.2 (pq p 35) i)) (h140 : F w 140 = -1) (hk : k ≤ 2000) (hW : W + e ≤ 100000) (h9 : F m (pq p 9) ≠ 3) (hee : F m 955 = ((ee : Nat) : Int) ∧ ee < 24) (hN : 2200000 ≤ N) :
    PP (fun m2 r w2 r2 => (r = 1 ∧ r2 = 1 ∧ XRm p m m2 ∧ XRr p w w2 ∧ (∀ i, W ≤ i → i < W + e → m2.2.2.2 (pq p 35) i = m.2.2.2 (pq p 35) i) ∧ ∃ b2 U, PLs b2 p (wi m2 (pq p 26) ((W : Nat) : Int)) w2 U B W Y ∧ U + k ≤ 500 ∧ (∃ ow2 kd2, PTQ m2 p U ow2 kd2 Fv P B (W + e) Y) ∧ (∃ ow2 kd2, CX w2 p (hp w2 p) U ow2 kd2 Fv' P' W B Y)) ∨ (r = 0 ∧ r2 = 0 ∧ ∃ m4, XRm p m m4 ∧ XRr p w w2 ∧ m2 = enS m4 p (mk 1 20) p ee ∧ m4.1 (pq p 5) = w2.2.2.1 90 p)) (hm_Ma_room N m p (I ((k : Nat) : Int))) (fm_M_wants N w (I ((p : Nat) : Int)) (I ((k : Nat) : Int))) := by
  have p2 := q.1.2.1
  have hu : A w 89 p = ((n : Nat) : Int) := pl.1.1.2.1
  have bW : W ≤ 46000 := xc.2.2.2.2.1.2
  have bB : B ≤ 2500 := xc.2.2.2.2.2.1.2
  have bY : Y ≤ 30 := xc.2.2.2.2.2.2.1.2
  have e0 : (wi m (pq p 26) ((W : Nat) : Int)).1 (pq p 5) = m.1 (pq p 5) := wi_1 (pq_inj (by omega))
  have hz : RTZ b m w p B (W + e) Y W B Y := by
    obtain ⟨z1, z2, z3⟩ := PLs_z pl (show F w 140 ≠ ((p : Nat) : Int) by rw [h140]; omega)
    refine ⟨fun K i c z => ?_, fun K i c z => ?_, fun c => absurd c (by rw [h140]; omega)⟩
    · rcases c with c | ⟨rfl, c⟩ | c
      · exact z1 K i (Or.inl c) z
      · by_cases ci : i < W
        · exact z1 _ i (Or.inr (Or.inl ⟨rfl, ci⟩)) z
        · exact absurd z (hx i (by omega) c)
      · exact z1 K i (Or.inr (Or.inr c)) z
    · obtain ⟨K2, i2, c2, r⟩ := z2 K i c z
      refine ⟨K2, i2, ?_, r⟩
      rcases c2 with c2 | ⟨c2, c3⟩ | c2
      · exact Or.inl c2
      · exact Or.inr (Or.inl ⟨c2, by omega⟩)
      · exact Or.inr (Or.inr c2)
  have w0 := pp_pl (pp_pr (pp_pl (want_pp (N := N) (k := ((k : Nat) : Int)) q cx.1 cx.2.1 xc hu pl.1.2.1 hz (e0.symm.trans pl.1.2.2) (by omega) ⟨by omega, by omega⟩ (by omega)) (pk_ok (want_ok (N := N) (x := ((k : Nat) : Int)) q cx ⟨by omega, by omega⟩ (by omega)))) (pk_ok (wants_ok (N := N) (k := k) xc hu (by omega) (by omega)))) (want_nh (N := N) (v := ((k : Nat) : Int)) q cx ⟨by omega, by omega⟩ hN ⟨by omega, by omega, bY⟩)
  have wp : PP (fun m2 r w2 r2 => ∃ b2 U, PLs b2 p (wi m2 (pq p 26) ((W : Nat) : Int)) w2 U B W Y ∧ ((r = 0 ∧ r2 = 0) ∨ (r = 1 ∧ r2 = 1 ∧ U + k ≤ 500)) ∧ XRm p m m2 ∧ XRr p w w2 ∧ (∃ ow2 kd2, PTQ m2 p U ow2 kd2 Fv P B (W + e) Y) ∧ (∃ ow2 kd2, CX w2 p (hp w2 p) U ow2 kd2 Fv' P' W B Y) ∧ (∀ i, W ≤ i → i < W + e → m2.2.2.2 (pq p 35) i = m.2.2.2 (pq p 35) i)) (hm_Pr_want N m p (I ((k : Nat) : Int))) (fm_M_wants N w (I ((p : Nat) : Int)) (I ((k : Nat) : Int))) := by
    refine pp_mo w0 (fun m2 r w2 r2 q9 => ?_)
    obtain ⟨⟨⟨⟨⟨b2, xf⟩, y1, y2, ⟨y3, y4⟩, y5⟩, c1, U2, ow2, kd2, c2, c3, c4, -⟩, n2, ow3, kd3, fd, R, ⟨r1, r2', r3, r4, r5, r6, r7, r8, r9, r10, r11, r12⟩, r13⟩, nh⟩ := q9
    have xf' : XFR b b2 (wi m (pq p 26) ((W : Nat) : Int)) w (wi m2 (pq p 26) ((W : Nat) : Int)) w2 p B W Y W B Y := by
      obtain ⟨⟨U, u1, u2, u3, u4⟩, x2, x3, x4⟩ := xf
      refine ⟨⟨U, by rw [wi_ne (pq_inj (by omega))]; exact u1, u2, u3, u4⟩, fun K i K2 i2 k1 k2 r => x2 K i K2 i2 ?_ k2 r, fun c => absurd c (by rw [h140]; omega), x4⟩
      rcases k1 with k1 | ⟨k1, k3⟩ | k1
      · exact Or.inl k1
      · exact Or.inr (Or.inl ⟨k1, by omega⟩)
      · exact Or.inr (Or.inr k1)
    have xrm : XRm p (wi m (pq p 26) ((W : Nat) : Int)) (wi m2 (pq p 26) ((W : Nat) : Int)) := by
      refine ⟨fun d hd => ?_, c4.2.1, c4.2.2.1, c4.2.2.2⟩
      by_cases c : d = pq p 26
      · subst c
        show (if _ = _ then _ else _) = (if _ = _ then _ else _)
        rw [if_pos rfl, if_pos rfl]
      · rw [wi_1 c, wi_1 c]
        exact c4.1 d hd
    obtain ⟨U, pl2, u1⟩ := PLs_xfr pl xf' xrm r6 (by rw [wi_1 (pq_inj (by omega))]; exact y1)
    rw [wi_ne (pq_inj (by omega))] at u1
    have e1 : U2 = U := by
      have := c2.1.1
      omega
    subst e1
    have e2 : n2 = U2 := by
      have := r5 p
      rw [if_pos rfl, pl2.1.1.2.1] at this
      omega
    subst e2
    refine ⟨b2, n2, pl2, ?_, c4, ⟨r6, fun s hs => ⟨?_, y2 s hs⟩, r7, fun i hi => (r8 i).2 (by omega), fun i hi => (r9 i).2 (by omega), fun i hi => (r10 i).2 (by omega)⟩, ⟨ow2, kd2, c2⟩, ⟨ow3, kd3, r3⟩, fun i h1 h2 => nh i h2 (hx i h1 h2)⟩
    · rcases y4 with e | e
      · exact Or.inl ⟨e, by rw [← y3]; exact e⟩
      · refine Or.inr ⟨e, by rw [← y3]; exact e, ?_⟩
        have := c3 e
        omega
    · rw [r5 s, if_neg hs]
  intro m2 r w2 r2 e1 e2
  have re := room_e (N := N) (p := p) (k := k) (m := m) (ee := ee) (fun m4 r4 => hm_Pr_want N m p (I ((k : Nat) : Int)) = some (m4, r4)) (fun m4 r4 hz => by
    obtain ⟨b2, U, a1, a3, a4, -⟩ := wp m4 r4 w2 r2 hz e2
    refine ⟨?_, a4, hz⟩
    rcases a3 with ⟨c, -⟩ | ⟨c, -⟩
    · exact Or.inl c
    · exact Or.inr c) h9 hee m2 r e1
  obtain ⟨m4, x1, hz, c⟩ := re
  obtain ⟨b2, U, a1, a3, a4, a5, a6, a7, a8⟩ := wp m4 r w2 r2 hz e2
  rcases c with ⟨rfl, rfl⟩ | ⟨rfl, rfl⟩
  · rcases a3 with ⟨c1, -⟩ | ⟨-, c2, c3⟩
    · exact absurd c1 (by decide)
    · exact Or.inl ⟨rfl, c2, a4, a5, a8, b2, U, a1, c3, a6, a7⟩
  · rcases a3 with ⟨-, c2⟩ | ⟨c1, -⟩
    · have h5 := a1.1.2.2
      rw [wi_1 (pq_inj (by omega))] at h5
      exact Or.inr ⟨rfl, c2, m4, a4, a5, rfl, h5⟩
    · exact absurd c1 (by decide)
theorem PLs_cells (pl : PLs b p m w U B W Y) (f : FR [pq p 4] [] [] [pq p 2] m m3) (g : FR [] [] [89] [88] w w3) (e4 : F m3 (pq p 4) = ((U + k : Nat) : Int)) (e89 : A w3 89 p = ((U + k : Nat) : Int)) (hU : U + k ≤ 500) (bb : ∀ k a c, b k a c → b3 k a c) (is : ISb b3 (m3.2.2.2 (pq p 2)) (U + k) (hp w3 p) (U + k)) : PLs b3 p m3 w3 (U + k) B W Y := by
  obtain ⟨⟨⟨p1, p2, p3⟩, p4, p5⟩, ⟨p6, p7, p8⟩, ⟨p9, p10, p11⟩, p12, p13, p14⟩ := pl
  have fF : ∀ d, d ≠ 4 → m3.1 (pq p d) = m.1 (pq p d) := fun d h => f.1 _ (by simp; exact pq_inj h)
  have jm : ∀ d, d ≠ 2 → m3.2.2.2 (pq p d) = m.2.2.2 (pq p d) := fun d h => f.2.2.2 _ (by simp; exact pq_inj h)
  have fG : ∀ d, d ≠ 4 → F m3 (pq p d) = F m (pq p d) := fun d h => congrArg Int32.toInt (fF d h)
  exact ⟨⟨⟨e4, e89, hU⟩, is, by rw [fF 5 (by omega), g.2.2.1 90 (by simp)]; exact p5⟩, ⟨by rw [fG 24 (by omega)]; exact p6, by rw [FR.A g (by simp)]; exact p7, fun i hi => by rw [jm 33 (by omega), g.2.2.2 93 (by simp)]; exact RTb_mo bb (p8 i hi)⟩, ⟨by rw [fG 26 (by omega)]; exact p9, by rw [FR.A g (by simp)]; exact p10, fun i hi => by rw [jm 35 (by omega), g.2.2.2 91 (by simp)]; exact RTb_mo bb (p11 i hi)⟩, by rw [fG 7 (by omega)]; exact p12, by rw [FR.A g (by simp)]; exact p13, fun i hi => by rw [jm 6 (by omega), g.2.2.2 107 (by simp)]; exact RTb_mo bb (p14 i hi)⟩
end
end
section
set_option maxRecDepth 100000
section
variable {α β γ δ : Type} {R : MS → α → MS → β → Prop} {a : Option (MS × α)} {z : Option (MS × β)}
theorem l_bb {o : Option (MS × γ)} {f : MS → γ → Option (MS × δ)} {K : MS → δ → Option (MS × α)} (h : PP R (bnd o (fun u r => bnd (f u r) K)) z) : PP R (bnd (bnd o f) K) z := by rw [bb_e]; exact h
theorem r_bb {o : Option (MS × γ)} {f : MS → γ → Option (MS × δ)} {K : MS → δ → Option (MS × β)} (h : PP R a (bnd o (fun u r => bnd (f u r) K))) : PP R a (bnd (bnd o f) K) := by rw [bb_e]; exact h
theorem lb_bnd {o : Option (MS × γ)} {f : MS → γ → Option (MS × δ)} {K : MS → δ → Option (MS × α)} (h : PK (fun u r => PP R (bnd (f u r) K) z) o) : PP R (bnd (bnd o f) K) z := by
  rw [bb_e]
  exact l_bnd h
theorem lb_ck {c : Bool} {p : Option (MS × δ)} {K : MS → δ → Option (MS × α)} (h : c = true → PP R (bnd p K) z) : PP R (bnd (ck c p) K) z := by
  cases c with
  | true => exact h rfl
  | false => exact pp_nl
theorem lb_br {c : Bool} {p q : Option (MS × δ)} {K : MS → δ → Option (MS × α)} (h1 : c = true → PP R (bnd p K) z) (h2 : c = false → PP R (bnd q K) z) : PP R (bnd (br c p q) K) z := by
  cases c with
  | true => exact h1 rfl
  | false => exact h2 rfl
end
def tld (m : MS) (how ar : Int) (t : Int64) : MS := wl (wi (wi m 1109 how) 1111 ar) 1110 t
def trs (m : MS) (how ar : Int) (t : Int64) : MS := wi (tld m how ar t) 1109 0
section
variable {p j d : Nat} {m w m2 w2 m3 w3 : MS} {nb : Nat → Nat} {Hs Os : Nat → List Nat} {y : Option (Nat × Nat × Nat)} {how ar : Int} {t : Int64}
theorem RUs_b {a n : Nat} (h : RUs m w p j nb Hs Os y a n) : RUb m w p j nb Hs Os y := ⟨h.1, h.2.2.2⟩
theorem RUb_fg (h : RUb m w p j nb Hs Os y) (f : FGm p m m2) (g : FGw p j w w2) : RUb m2 w2 p j nb Hs Os y := by
  obtain ⟨r1, ⟨r5, r6⟩, r7, ⟨r8, r9, r10⟩, r11, r12, r13⟩ := h
  obtain ⟨g1, g2, g3, -⟩ := g
  have hj : j < 60 := r1.1.1.2.2
  have ai : ∀ {x y : Int32}, x.toInt = y.toInt → x = y := fun h => Int32.toInt_inj.mp h
  have i1 : ∀ k, k < 100 → k ≠ 4 → k ≠ 5 → k ≠ 26 → k ≠ 45 → m2.1 (pq p k) = m.1 (pq p k) := fun k h0 h1 h2 h3 h4 => f.1 _ (by
    simp only [List.mem_cons, List.not_mem_nil, or_false]
    intro c
    rcases c with c | c | c | c | c
    · exact pq_inj h1 c
    · exact pq_inj h2 c
    · exact pq_inj h3 c
    · exact pq_inj h4 c
    · exact pq_n (by omega) c.symm)
  have fm : ∀ k, 1106 ≤ k → k < 1120 → m2.1 k = m.1 k := fun k c1 c2 => f.1 k (by simp; unfold pq; omega)
  have fF : ∀ k, 1106 ≤ k → k < 1120 → F m2 k = F m k := fun k c1 c2 => congrArg Int32.toInt (fm k c1 c2)
  have fw : ∀ k, k = 133 ∨ (151 ≤ k ∧ k ≤ 165) → w2.1 k = w.1 k := fun k c => g1.1 k (by simp; omega)
  have wF : ∀ k, k = 133 ∨ (151 ≤ k ∧ k ≤ 165) → F w2 k = F w k := fun k c => congrArg Int32.toInt (fw k c)
  have pr : ∀ K, PRr K → w2.2.2.1 K = w.2.2.1 K := fun K c => g1.2.2.1 K (by unfold PRr at c; simp; omega)
  have h34 : w2.2.2.2 34 = w.2.2.2 34 := g1.2.2.2 34 (by simp)
  refine ⟨FC_w r1 (fun k c => i1 k (by omega) (by omega) (by omega) (by omega) (by omega)) (fun k c => f.2.2.1 _ (by simp)) (f.2.2.1 23 (by simp)) (fun K c => by rw [g1.2.2.1 K (by simp; omega)]) (fun K r c1 c2 c3 c4 => ?_) (fun K c c1 c2 c3 => by rw [g1.2.2.1 K (by simp; omega)]) pr h34, ⟨?_, ?_⟩, GD_w r7 (i1 8 (by omega) (by omega) (by omega) (by omega) (by omega)) (f.2.1 _ (by simp)) (by rw [g1.2.2.2 111 (by simp)]) fm fw (f.2.2.1 23 (by simp)) pr h34, ⟨by rw [fF 1108 (by omega) (by omega)]; exact r8, by rw [fF 1109 (by omega) (by omega)]; exact r9, by rw [wF 151 (by omega)]; exact r10⟩, by rw [wF 133 (by omega)]; exact r11, by rw [fm 1106 (by omega) (by omega), fw 165 (by omega)]; exact r12, by rw [fm 1107 (by omega) (by omega), fw 164 (by omega)]; exact r13⟩
  · by_cases c5 : K = 98
    · subst c5
      exact ai (g3 _ (by have := c4 rfl; omega))
    · rw [g1.2.2.1 K (by simp; omega)]
  · show (m2.1 (pq p 9)).toInt = _
    rw [i1 9 (by omega) (by omega) (by omega) (by omega) (by omega)]
    exact r5
  · rw [FR.A g1 (by simp)]
    exact r6
theorem trs_1 (h1 : d ≠ 1109) (h2 : d ≠ 1111) : (trs m how ar t).1 d = m.1 d := (wi_1 h1).trans ((wi_1 h2).trans (wi_1 h1))
theorem trs_q {k : Nat} : (trs m how ar t).1 (pq p k) = m.1 (pq p k) := trs_1 (fun c => pq_n (by omega) c.symm) (fun c => pq_n (by omega) c.symm)
theorem trs_9 : F (trs m how ar t) 1109 = 0 := wi_sm (by omega) (by omega)
theorem wl_s1 {u : MS} {k : Nat} {t : Int64} : (wl u k t).2.1 k = t := if_pos rfl
theorem trs_10 : (trs m how ar t).2.1 1110 = t := (wl_s1 : (wl (wi (wi m 1109 how) 1111 ar) 1110 t).2.1 1110 = t)
theorem trs_l (h : d ≠ 1110) : (trs m how ar t).2.1 d = m.2.1 d := if_neg h
theorem trs_3 : (trs m how ar t).2.2 = m.2.2 := rfl
theorem trs_11 (h : RG ar) : F (trs m how ar t) 1111 = ar := (wi_ne (by omega)).trans (wi_sm h.1 h.2)
theorem tld_9 (h : RG how) : F (tld m how ar t) 1109 = how := (wi_ne (by omega)).trans (wi_sm h.1 h.2)
theorem GGm_trs : GGm p m (trs m how ar t) := by
  refine ⟨fun d _ k hk => ⟨trs_q, trs_l (fun c => pq_n (by omega) c.symm), rfl, rfl⟩, ⟨rfl, trs_1 (by omega) (by omega), rfl, rfl⟩, trs_1 (by omega) (by omega), rfl, trs_1 (by omega) (by omega), fun _ _ => rfl, fun k hk => trs_1 (by omega) (by omega)⟩
theorem RUb_trs (h : RUb m w p j nb Hs Os y) : RUb (trs m how ar t) w p j nb Hs Os y := by
  obtain ⟨r1, ⟨r5, r6⟩, r7, ⟨r8, r9, r10⟩, r11, r12, r13⟩ := h
  have fT : ∀ k, k ≠ 1109 → k ≠ 1111 → F (trs m how ar t) k = F m k := fun k h1 h2 => congrArg Int32.toInt (trs_1 h1 h2)
  refine ⟨FC_w r1 (fun k c => trs_q) (fun k c => rfl) rfl (fun K c => rfl) (fun K r c1 c2 c3 c4 => rfl) (fun K c c1 c2 c3 => rfl) (fun _ _ => rfl) rfl, ⟨?_, r6⟩, ?_, ⟨by rw [fT 1108 (by omega) (by omega)]; exact r8, trs_9, r10⟩, r11, by rw [trs_1 (by omega) (by omega)]; exact r12, by rw [trs_1 (by omega) (by omega)]; exact r13⟩
  · show ((trs m how ar t).1 (pq p 9)).toInt = _
    rw [trs_q]
    exact r5
  · rcases r7 with ⟨c1, c2, c3⟩ | ⟨kd, k, sc, c1, fl, W0, O0, X, c2, ⟨c3, c4, c5, c6⟩, cw, c12, f2, g, c13⟩
    · exact Or.inl ⟨c1, by rw [fT 1112 (by omega) (by omega)]; exact c2, c3⟩
    · refine Or.inr ⟨kd, k, sc, c1, fl, W0, O0, X, c2, ⟨by rw [fT 1112 (by omega) (by omega)]; exact c3, c4, by rw [fT 1113 (by omega) (by omega)]; exact c5, by rw [fT 1114 (by omega) (by omega)]; exact c6⟩, cw, fun e3 => ?_, f2, g, c13⟩
      obtain ⟨d1, n2, d2⟩ := c12 e3
      have e8 : F (trs m how ar t) (pq p 8) = F m (pq p 8) := congrArg Int32.toInt trs_q
      exact ⟨⟨by rw [e8]; exact d1.1, by rw [trs_l (fun c => pq_n (by omega) c.symm)]; exact d1.2⟩, n2, d2⟩
end
section
variable {b : Int → Nat → Nat → Prop} {N p U B W Y n : Nat} {m w : MS} {how ar : Int} {t : Int64} {ow kd : Nat → Nat} {Fv : Int64 → Int64 → Prop} {P : Int64 → Prop}
theorem PLs_trs (pl : PLs b p m w U B W Y) : PLs b p (trs m how ar t) w U B W Y := PLs_cg pl (fun _ _ => trs_q) (fun _ _ => rfl) (fun _ _ => rfl) (fun _ _ => rfl) (fun _ _ => rfl) (fun _ _ => rfl) (fun _ _ => rfl) (fun _ _ => rfl) (fun _ _ => rfl) (fun _ _ => rfl)
theorem PLs_trW (pl : PLs b p (wi m (pq p 26) ((W : Nat) : Int)) w U B W Y) : PLs b p (wi (trs m how ar t) (pq p 26) ((W : Nat) : Int)) w U B W Y := PLs_cg pl (fun k hk => by
  by_cases c : pq p k = pq p 26
  · show (if pq p k = pq p 26 then _ else _) = (if pq p k = pq p 26 then _ else _)
    rw [if_pos c, if_pos c]
  · rw [wi_1 c, wi_1 c]
    exact trs_q) (fun _ _ => rfl) (fun _ _ => rfl) (fun _ _ => rfl) (fun _ _ => rfl) (fun _ _ => rfl) (fun _ _ => rfl) (fun _ _ => rfl) (fun _ _ => rfl) (fun _ _ => rfl)
theorem PTQ_trs (pt : PTQ m p n ow kd Fv P B W Y) : PTQ (trs m how ar t) p n ow kd Fv P B W Y := PTQ_same pt (fun _ _ => trs_q) (fun _ _ => rfl)
theorem CTX_trs (cx : CTX Fv P m) : CTX Fv P (trs m how ar t) := CTX_fr cx (trs_1 (by omega) (by omega)) rfl
theorem LNB_trs (lb : LNB m p) : LNB (trs m how ar t) p := by
  have e : ∀ k, F (trs m how ar t) (pq p k) = F m (pq p k) := fun k => congrArg Int32.toInt trs_q
  unfold LNB
  rw [e, e, e, e, e]
  exact lb
theorem raise_n (h12 : F m 1112 = 0) (hr : RG how) : hm_Ma_raise N (tld m how (-1) t) p = hb_Ma_raise_65 N () (trs m how (-1) t) p (I how) := by
  unfold hm_Ma_raise hb_Ma_raise_0
  have e1 : F (trs m how (-1) t) 1112 = 0 := (congrArg Int32.toInt (trs_1 (by omega) (by omega))).trans h12
  have e2 : F (trs m how (-1) t) 1111 = -1 := trs_11 ⟨by omega, by omega⟩
  rw [lit0q, show upI (tld m how (-1) t) 1109 (I 0) = trs m how (-1) t from rfl, lt_e, I_F' e1, show decide (I 0 = I 0) = true from rfl, br_tq, I_F' e2, show decide (I (-1) = -1) = true from rfl, br_tq, I_F' (tld_9 hr)]
theorem raise_g {fl : Nat} (h12 : F m 1112 = ((fl : Nat) : Int)) (hf : 0 < fl) : hm_Ma_raise N (tld m how ar t) p = bnd (hm_Ma_guardFails N (trs m how ar t) p) (fun u37 _ => some (u37, ())) := by
  unfold hm_Ma_raise hb_Ma_raise_0
  have r := F_r m 1112
  rw [h12] at r
  have e1 : F (trs m how ar t) 1112 = ((fl : Nat) : Int) := (congrArg Int32.toInt (trs_1 (by omega) (by omega))).trans h12
  rw [lit0q, show upI (tld m how ar t) 1109 (I 0) = trs m how ar t from rfl, lt_e, I_F' e1, decE (by omega) (by omega) (by omega) (by omega), decide_eq_false (by omega), br_fq]
end
section
variable {α β : Type} {b : Int → Nat → Nat → Prop} {N p PR U B W Wc Y j ee ee' : Nat} {m w m2 w2 : MS} {t x : Int64} {nb : Nat → Nat} {Hs Os : Nat → List Nat} {y : Option (Nat × Nat × Nat)} {Q : MS → α → MS → β → Prop} {K1 : MS → Option (MS × α)} {K2 : MS → Option (MS × β)} {S : SG_M_error} {ow kd ow' kd' : Nat → Nat} {Fv Fv' : Int64 → Int64 → Prop} {P P' : Int64 → Prop} {how kn : Int}
theorem RQ_lit {e e' : Nat} (hp' : p < PR) (p24 : p < 24) (h1 : ¬ isH t) (h6 : so t = 6 → va t = 0) (hP : P t) (hP' : P' t) : RQs Fv P Fv' P' PR (enS m p t p e) (enR w p 0 ((p : Nat) : Int) t e') p 0 p t := by
  have v := enS_v (m := m) (q := p) (t := t) (hm := p) (e := e)
  exact ⟨p, 0, by rw [v.2.1]; exact rf_some p24, hp', v.1, Or.inr ⟨hp', by rw [enR_9, if_pos rfl]⟩, by rw [v.2.2]; exact SRs_lit h1 h6 hP hP' (by omega) (by omega), Or.inl ⟨h1, hP'⟩⟩
def CTa (m w : MS) (p W : Nat) : Prop := ∀ c : Nat, F m (pq p 28) = ((c + 1 : Nat) : Int) → c < 1600 ∧ (∃ W0 : Nat, A w 104 (1600 * p + c) = ((W0 : Nat) : Int) ∧ W0 ≤ W) ∧ ∀ nd : Nat, A w 103 (1600 * p + c) = ((nd : Nat) : Int) → nd < 2147483648
theorem up_pp (hv : (how = 1 ∧ kn = 0) ∨ (how = 2 ∧ kn = 1) ∨ (how = 3 ∧ kn = 2)) (hpp : p < 24) (hpr : p < PR) (pl : PLs b p (wi m (pq p 26) ((W : Nat) : Int)) w U B W Y) (ru : RUb m w p j nb Hs Os none) (hW : W ≤ Wc) (bd : B ≤ 2500 ∧ W < 46000) (lb : LNB m p) (pt : PTQ m p U ow kd Fv P B Wc Y) (cx : CTX Fv P m) (xc : CX w p (hp w p) U ow' kd' Fv' P' W B Y) (pb : PB P' PR) (g : GT U ow kd P (m.2.1 1110)) (g' : GT U ow' kd' P' x) (rt : RTb b (m.2.1 1110) x) (ca : CTa m w p W) (hee : F m 955 = ((ee : Nat) : Int) ∧ ee < 24) (hee' : F w 150 = ((ee' : Nat) : Int) ∧ ee' < 4000) (hN : 2200000 ≤ N)
    (kk : ∀ b3 U3 W3 r k a0 nn m3 w3, PLs b3 p m3 w3 U3 (nb r + (Hs r).length + k) (W3 + 1) Y → RUs m3 w3 p r nb Hs (tkO Os r k) none a0 nn → GGm p m m3 → GGw p w w3 → (SCs p m w → SCs p m3 w3) → PP Q (K1 m3) (K2 w3))
    (ke : ∀ m3 w3 wr t3 x3, GGm p m m3 → GGw p w w3 → (SCs p m w → SCs p m3 w3) → m3.1 (pq p 5) = w3.2.2.1 90 p → (wr = 0 ∨ wr = 1 ∨ wr = 2) → RQs Fv P Fv' P' PR (enS m3 p t3 p ee) (enR w3 p wr ((p : Nat) : Int) x3 ee') p wr p x3 → PP Q (K1 (enS m3 p t3 p ee)) (K2 (wi (enR w3 p wr ((p : Nat) : Int) x3 ee') 151 1))) : PP Q (bnd (hb_Ma_raise_65 N () m p (I how)) (fun u _ => K1 u)) (bnd (fm_M_goesUp N S w (I kn) x) (fun u _ => K2 u)) := by
  obtain ⟨⟨fa, ct⟩, ⟨r5, r6⟩, r7, -, r11, -, -⟩ := id ru
  have h152 : F w 152 = 0 := by
    rcases r7 with ⟨_, _, c3⟩ | ⟨_, _, _, c, _⟩
    · exact c3
    · cases c
  obtain ⟨nC, c1, c2, -⟩ := id ct
  cases nC with
  | zero =>
    have h28 : F m (pq p 28) = 0 := c1
    have h106 : A w 106 p = 0 := c2
    rcases hv with ⟨rfl, rfl⟩ | ⟨rfl, rfl⟩ | ⟨rfl, rfl⟩
    · exact err_n (wr := 1) (v := 7) (Or.inl ⟨rfl, rfl, rfl, rfl⟩) hpp hpr pl h28 h106 h152 r11 ⟨by omega, by omega⟩ pt cx xc g g' rt hee hee' (fun m1 t1 a1 a2 _ a3 a4 => ke m1 w 1 t1 x a1 GGw.rf a2 a3 (by omega) a4)
    · exact exit_n hpp hpr pl h28 h106 h152 r11 ⟨by omega, by omega⟩ pt xc g g' rt hee hee' (fun a3 a4 => ke m w 0 _ x GGm.rf GGw.rf id a3 (by omega) a4)
    · exact err_n (wr := 2) (v := 19) (Or.inr ⟨rfl, rfl, rfl, rfl⟩) hpp hpr pl h28 h106 h152 r11 ⟨by omega, by omega⟩ pt cx xc g g' rt hee hee' (fun m1 t1 a1 a2 _ a3 a4 => ke m1 w 2 t1 x a1 GGw.rf a2 a3 (by omega) a4)
  | succ c =>
    obtain ⟨hc, ⟨W0, hW0, hW1⟩, hnd⟩ := ca c c1
    have p20 : P (mk 1 20) := cx.2.2.2.2.2.1 20 (by omega) (by have := cx.2.2.2.1; omega)
    have p20' : P' (mk 1 20) := pb.1 20 (by omega) (by omega)
    have kE : ∀ m3 w3, GGm p m m3 → GGw p w w3 → (SCs p m w → SCs p m3 w3) → m3.1 (pq p 5) = w3.2.2.1 90 p → PP Q (K1 (enS m3 p (mk 1 20) p ee)) (K2 (wi (enR w3 p 0 ((p : Nat) : Int) (mk 1 20) ee') 151 1)) := fun m3 w3 a1 a2 a3 a4 => ke m3 w3 0 _ _ a1 a2 a3 a4 (by omega) (RQ_lit hpr hpp (nh_mk (by omega)) (fun c => by rw [so_mk (by omega) (by omega)] at c; omega) p20 p20')
    rcases hv with ⟨rfl, rfl⟩ | ⟨rfl, rfl⟩ | ⟨rfl, rfl⟩
    · exact err_c (v := 7) (Or.inl ⟨rfl, rfl, rfl⟩) hpp pl ru c1 hc hW0 ⟨hW1, hW⟩ bd lb pt cx xc g g' rt hnd hee hee' hN (fun b3 U3 r k a0 nn m3 w3 => kk b3 U3 W0 r k a0 nn m3 w3) kE
    · exact err_c (v := 8) (Or.inr ⟨rfl, rfl, rfl⟩) hpp pl ru c1 hc hW0 ⟨hW1, hW⟩ bd lb pt cx xc g g' rt hnd hee hee' hN (fun b3 U3 r k a0 nn m3 w3 => kk b3 U3 W0 r k a0 nn m3 w3) kE
    · obtain ⟨⟨la, la1, la2⟩, -⟩ := id lb
      have l2 : 64 * 2 ^ la ≤ 1000000 := by
        have : 2 ^ la ≤ 2 ^ 10 := Nat.pow_le_pow_right (by omega) la1
        omega
      have hl : W0 ≤ 64 * 2 ^ la := by
        obtain ⟨-, -, ⟨q6, -⟩, -, -, ⟨l, z1, z2, z3⟩, -⟩ := pt
        have : ((Wc : Nat) : Int) ≤ F m (pq p 45) := by rw [z1]; omega
        rw [la2] at this
        omega
      exact throw_c hpp pl ru c1 hc hW0 hW1 bd la2 ⟨hl, l2⟩ rt hnd (fun r k a0 nn m3 w3 => kk b U W0 r k a0 nn m3 w3)
end
end
section
set_option maxRecDepth 100000
def TRs (m w : MS) (p j : Nat) (nb : Nat → Nat) (Hs Os : Nat → List Nat) (kd sc a : Nat) (k : Int) : Prop :=
  RUb m w p j nb Hs Os none ∧ F m 1105 = ((a : Nat) : Int) ∧ (F w 153 = ((kd : Nat) : Int) ∧ F w 154 = k ∧ F w 156 = ((nb j + (Hs j).length + (Os j).length : Nat) : Int)) ∧ TRr kd sc m w p (Hs j) (Os j) ∧ ((Os j).Nodup ∧ (Hs j).Nodup) ∧ ∃ f g, ZRs (A m 23) (ROs w) (w.2.2.2 34) (CRs (A m 23) (ROs w) (w.2.2.2 34) f) kd sc (Hs j) (Os j) g a k
section
variable {p j d : Nat} {m w m2 w2 m3 w3 : MS} {nb : Nat → Nat} {Hs Os : Nat → List Nat} {y : Option (Nat × Nat × Nat)} {how ar : Int} {t : Int64}
theorem TRr_w {kd sc : Nat} {H O0 : List Nat} (h : TRr kd sc m w p H O0) (f8 : m2.1 (pq p 8) = m.1 (pq p 8)) (fL : m2.2.1 (pq p 10) = m.2.1 (pq p 10)) (fJ : w2.2.2.2 111 p = w.2.2.2 111 p) (fw : ∀ k, k = 155 ∨ k = 158 ∨ k = 159 → w2.1 k = w.1 k) (e23 : m2.2.2.1 23 = m.2.2.1 23) (pr : ∀ K, PRr K → w2.2.2.1 K = w.2.2.1 K) (h34 : w2.2.2.2 34 = w.2.2.2 34) : TRr kd sc m2 w2 p H O0 := fun e3 => by
  obtain ⟨d1, n2, d2, d3, d4, d5, g2, d6⟩ := h e3
  have hP : ∀ K, PRr K → A w2 K = A w K := fun K a => by funext i; show (w2.2.2.1 K i).toInt = _; rw [pr K a]; rfl
  have h23 : A m2 23 = A m 23 := by funext i; show (m2.2.2.1 23 i).toInt = _; rw [e23]; rfl
  have e8 : F m2 (pq p 8) = F m (pq p 8) := congrArg Int32.toInt f8
  have wF : ∀ k, k = 155 ∨ k = 158 ∨ k = 159 → F w2 k = F w k := fun k c => congrArg Int32.toInt (fw k c)
  exact ⟨⟨by rw [wF 158 (by omega), e8]; exact d1.1, by rw [fL, fJ]; exact d1.2⟩, n2, by rw [wF 159 (by omega)]; exact d2, by rw [wF 155 (by omega), hP 25 (by unfold PRr; omega)]; exact d3, by rw [hP 23 (by unfold PRr; omega)]; exact d4, by rw [hP 27 (by unfold PRr; omega)]; exact d5, g2, by rw [h23, ROs_eq pr, h34]; exact d6⟩
end
section
variable {α β : Type} {b : Int → Nat → Nat → Prop} {N p U B W Y j kd k sc D : Nat} {m w m2 w2 : MS} {nb : Nat → Nat} {Hs Os : Nat → List Nat} {Q : MS → α → MS → β → Prop} {K1 : MS → Option (MS × α)} {K2 : MS → Option (MS × β)} {how kn : Int} {x : Int64}
theorem gf_m {fl W0 B X : Nat} (h12 : F m 1112 = ((fl : Nat) : Int)) (h13 : F m 1113 = ((X : Nat) : Int)) (h14 : F m 1114 = ((W0 : Nat) : Int)) (h24 : F m (pq p 24) = ((B + X : Nat) : Int)) : hm_Ma_guardFails N m p = some (wi (wi (wi (wi m (pq p 26) ((W0 : Nat) : Int)) (pq p 24) ((B : Nat) : Int)) 1105 ((fl : Nat) : Int)) 1112 0, ()) := by
  have r24 := F_r m (pq p 24)
  rw [h24] at r24
  unfold hm_Ma_guardFails hb_Ma_guardFails_0 hm_Fr_forget hb_Fr_forget_0
  rw [I_F' h14, wi_e, lt_e]
  have e13 : F (wi m (pq p 26) ((W0 : Nat) : Int)) 1113 = ((X : Nat) : Int) := by rw [wi_ne (pq_n (by omega))]; exact h13
  have e24 : F (wi m (pq p 26) ((W0 : Nat) : Int)) (pq p 24) = ((B + X : Nat) : Int) := by rw [wi_ne (pq_inj (by omega))]; exact h24
  rw [I_F' e13, I_F' e24, show I ((B + X : Nat) : Int) - I ((X : Nat) : Int) = I ((B : Nat) : Int) by rw [I_sub]; congr 1; omega]
  have em : (if 0 < I ((B : Nat) : Int) then I ((B : Nat) : Int) else 0) = I ((B : Nat) : Int) := by
    by_cases c : 0 < I ((B : Nat) : Int)
    · rw [if_pos c]
    · rw [if_neg c]
      have : B = 0 := by
        rw [lit0q, I_lt (by omega) (by omega) (by omega) (by omega)] at c
        omega
      rw [this]
      rfl
  rw [em, lt_e, wi_e, lt_e, bnd_so]
  have e12 : F (wi (wi m (pq p 26) ((W0 : Nat) : Int)) (pq p 24) ((B : Nat) : Int)) 1112 = ((fl : Nat) : Int) := by rw [wi_ne (pq_n (by omega)), wi_ne (pq_n (by omega))]; exact h12
  rw [I_F' e12, wi_e, lt_e, lit0q, wi_e, lt_e]
theorem gf_r {W0 : Nat} {S : SG_M_error} {k2 : Int} (hpp : p < 24) (h3 : F w 133 = ((p : Nat) : Int)) (h154 : F w 154 = ((k : Nat) : Int)) (h157 : F w 157 = ((W0 : Nat) : Int)) (h45 : A w 45 k = k2) (hk : k < 100000) {a : Option (MS × α)} (h : PP Q a (bnd (S.2.2.2.1 (wi (wa (wi w 152 0) 92 p ((W0 : Nat) : Int)) 154 k2)) (fun u _ => K2 u))) : PP Q a (bnd (fm_M_guardFails N S w) (fun u _ => K2 u)) := by
  unfold fm_M_guardFails fb_M_guardFails_0
  rw [lit0q, wi_e, lt_e]
  have e3 : F (wi w 152 0) 133 = ((p : Nat) : Int) := by rw [wi_ne (by omega)]; exact h3
  have e7 : F (wi w 152 0) 157 = ((W0 : Nat) : Int) := by rw [wi_ne (by omega)]; exact h157
  refine rb_ck (fun _ => ?_)
  rw [I_F' e3, tnI (n := p) rfl (by omega), I_F' e7, wa_e, lt_e]
  have e4 : F (wa (wi w 152 0) 92 p ((W0 : Nat) : Int)) 154 = ((k : Nat) : Int) := by rw [F_wa, wi_ne (by omega)]; exact h154
  refine rb_ck (fun _ => ?_)
  have e45 : A (wa (wi w 152 0) 92 p ((W0 : Nat) : Int)) 45 k = k2 := by rw [wa_rne (by omega), A_wi]; exact h45
  rw [I_F' e4, tnI (n := k) rfl (by omega), I_A' e45, wi_e, lt_e]
  refine r_bb ?_
  exact h
theorem gf_pp (hpp : p < 24) (pl : PLs b p (wi m (pq p 26) ((W : Nat) : Int)) w U B W Y) (ru : RUb m w p j nb Hs Os (some (kd, k, sc))) (bd : B ≤ 2500 ∧ W < 46000) (hk : k < 100000) (hw : F m 1114 ≤ ((W : Nat) : Int)) (nd : (Os j).Nodup ∧ (Hs j).Nodup) (hct : ∀ nC c : Nat, F m (pq p 28) = ((nC : Nat) : Int) → c < nC → A w 105 (1600 * p + c) + F m 1113 ≤ ((B : Nat) : Int)) {S : SG_M_error} (kt : ∀ m3 w3 B3 W3 a, PLs b p m3 (wa w3 94 p ((B3 : Nat) : Int)) U B3 W3 Y → A w3 92 p = ((W3 : Nat) : Int) → TRs m3 w3 p j nb Hs (fun i => if i = j then (Os j).take (B3 - (nb j + (Hs j).length)) else Os i) kd sc a (A w 45 k) → B3 ≤ B → W3 ≤ W → GGm p m m3 → GGw p w w3 → (SCs p m w → SCs p m3 w3) → (w3.2.2.2 88 = w.2.2.2 88 ∧ w3.1 140 = w.1 140) → PP Q (K1 m3) (bnd (S.2.2.2.1 w3) (fun u _ => K2 u))) : PP Q (bnd (hm_Ma_guardFails N m p) (fun u _ => K1 u)) (bnd (fm_M_guardFails N S w) (fun u _ => K2 u)) := by
  obtain ⟨⟨fa, ct⟩, ⟨r5, r6⟩, r7, ⟨r8, r9, r10⟩, r11, r12, r13⟩ := id ru
  rcases r7 with ⟨c1, -⟩ | ⟨kd', k', sc', c1, fl, W0, O0, X, c2, ⟨c3, c4, c5, c6⟩, ⟨c7, c8, c9, c10, c11⟩, c12, f2, g2, c13⟩
  · cases c1
  injection c1 with c1
  injection c1 with e1 c1
  injection c1 with e2 e3
  subst e1 e2 e3
  have hj : j < 60 := fa.1.2.2
  have hB : F m (pq p 24) = ((nb j + (Hs j ++ Os j).length : Nat) : Int) := fa.2.2.2
  have hB2 : B = nb j + (Hs j).length + O0.length + X.length := by
    have h3 := pl.2.1.1
    rw [wi_ne (pq_inj (by omega)), hB, List.length_append, c2, List.length_append] at h3
    omega
  have hW0 : W0 ≤ W := by rw [c6] at hw; omega
  have hB0 : F m (pq p 24) = ((nb j + (Hs j).length + O0.length + X.length : Nat) : Int) := by rw [hB, List.length_append, c2, List.length_append]; congr 1; omega
  rw [gf_m (B := nb j + (Hs j).length + O0.length) c3 c5 c6 hB0, bnd_so]
  refine gf_r hpp r11 c9 c11 rfl hk ?_
  have tk : (Os j).take (nb j + (Hs j).length + O0.length - (nb j + (Hs j).length)) = O0 := by
    rw [show nb j + (Hs j).length + O0.length - (nb j + (Hs j).length) = O0.length by omega, c2, List.take_left']
    rfl
  generalize hm3 : wi (wi (wi (wi m (pq p 26) ((W0 : Nat) : Int)) (pq p 24) ((nb j + (Hs j).length + O0.length : Nat) : Int)) 1105 ((fl : Nat) : Int)) 1112 0 = m3
  generalize hw3 : wi (wa (wi w 152 0) 92 p ((W0 : Nat) : Int)) 154 (A w 45 k) = w3
  have rfl12 := F_r m 1112
  rw [c3] at rfl12
  have i3 : ∀ l, l < 100 → l ≠ 24 → l ≠ 26 → m3.1 (pq p l) = m.1 (pq p l) := fun l h0 h1 h2 => by
    rw [← hm3, wi_1 (fun c => pq_n (by omega) c.symm), wi_1 (fun c => pq_n (by omega) c.symm), wi_1 (pq_inj h1), wi_1 (pq_inj h2)]
  have g3 : ∀ l, l < 2000 → l ≠ 1105 → l ≠ 1112 → m3.1 l = m.1 l := fun l h0 h1 h2 => by
    rw [← hm3, wi_1 h2, wi_1 h1, wi_1 (pq_n h0), wi_1 (pq_n h0)]
  have t3 : m3.2 = m.2 := by rw [← hm3]; rfl
  have e24 : F m3 (pq p 24) = ((nb j + (Hs j).length + O0.length : Nat) : Int) := by rw [← hm3, wi_ne (fun c => pq_n (by omega) c.symm), wi_ne (fun c => pq_n (by omega) c.symm), wi_sm (by omega) (by omega)]
  have e26 : F m3 (pq p 26) = ((W0 : Nat) : Int) := by rw [← hm3, wi_ne (fun c => pq_n (by omega) c.symm), wi_ne (fun c => pq_n (by omega) c.symm), wi_ne (pq_inj (by omega)), wi_sm (by omega) (by omega)]
  have e05 : F m3 1105 = ((fl : Nat) : Int) := by rw [← hm3, wi_ne (by omega), wi_sm (by omega) (by omega)]
  have e12 : F m3 1112 = 0 := by rw [← hm3, wi_sm (by omega) (by omega)]
  have w1 : ∀ l, l ≠ 152 → l ≠ 154 → w3.1 l = w.1 l := fun l h1 h2 => by
    rw [← hw3, wi_1 h2]
    show (wi w 152 0).1 l = _
    exact wi_1 h1
  have wF : ∀ l, l ≠ 152 → l ≠ 154 → F w3 l = F w l := fun l h1 h2 => congrArg Int32.toInt (w1 l h1 h2)
  have wA : ∀ K i, ¬ (K = 92 ∧ i = p) → w3.2.2.1 K i = w.2.2.1 K i := fun K i h => by rw [← hw3]; exact wa_at h
  have wR : ∀ K, K ≠ 92 → w3.2.2.1 K = w.2.2.1 K := fun K h => by funext i; exact wA K i (fun c => h c.1)
  have wJ : w3.2.2.2 = w.2.2.2 := by rw [← hw3]; rfl
  have wL : w3.2.1 = w.2.1 := by rw [← hw3]; rfl
  have e92 : A w3 92 p = ((W0 : Nat) : Int) := by rw [← hw3, A_wi, wa_sm (by omega) (by omega)]
  have e152 : F w3 152 = 0 := by
    rw [← hw3, wi_ne (by omega), F_wa, wi_sm (by omega) (by omega)]
  have rk := A_r w 45 k
  have e154 : F w3 154 = A w 45 k := by rw [← hw3, wi_sm rk.1 rk.2]
  have pr : ∀ K, PRr K → w3.2.2.1 K = w.2.2.1 K := fun K h => wR K (by unfold PRr at h; omega)
  have e23 : m3.2.2.1 23 = m.2.2.1 23 := by rw [t3]
  have gm : GGm p m m3 := by
    rw [← hm3]
    exact GGm.tr (GGm.tr (GGm.tr (GGm_own (by omega)) (GGm_own (by omega))) (GGm_reg (by omega))) (GGm_reg (by omega))
  have gw : GGw p w w3 := by
    refine ⟨fun d hd => ⟨fun K i h => wA K i (fun c => ?_), fun K h => by rw [wR K (by omega)], fun i _ _ => by rw [wR 131 (by omega)], by rw [wJ], fun i _ _ => by rw [wJ], fun i _ _ => by rw [wJ], fun i _ _ => by rw [wJ], fun i _ _ => by rw [wJ]⟩, ⟨pr, by rw [wJ], wR 12 (by omega), wR 13 (by omega), w1 14 (by omega) (by omega)⟩, w1 150 (by omega) (by omega), fun K h => wR K (by omega), by rw [wJ], fun K h => wR K (by omega), fun k h => w1 k (by omega) (by omega)⟩
    obtain ⟨rfl, rfl⟩ := c
    exact hd (OWi_d (Or.inl ⟨by omega, rfl⟩) h)
  have kn : O0.length ≤ (Os j).length := by rw [c2, List.length_append]; omega
  have fa3 : FAs m3 w3 p j nb Hs (tkO Os j O0.length) := FA_less fa kn (i3 21 (by omega) (by omega) (by omega)) e24 (fun l hl => by rw [t3]) e23 (wR' wR 95 (by omega)) (fun K r c1 c2 c3 c4 => wA K _ (fun c => by omega)) pr (by rw [wJ])
  have ct3 : CTs m3 w3 p j nb Hs (tkO Os j O0.length) := CT_less ct (fun nC c h1 h2 => by
    have := hct nC c h1 h2
    rw [c5] at this
    omega) kn (i3 28 (by omega) (by omega) (by omega)) (by rw [t3]) e23 (wR' wR 106 (by omega)) (fun K h1 h2 => wR K (by omega)) pr (by rw [wJ])
  have eO : (fun i => if i = j then (Os j).take (nb j + (Hs j).length + O0.length - (nb j + (Hs j).length)) else Os i) = tkO Os j O0.length := by
    funext i
    unfold tkO
    rw [show nb j + (Hs j).length + O0.length - (nb j + (Hs j).length) = O0.length by omega]
  have eOj : tkO Os j O0.length j = O0 := by rw [tkO_j, c2, List.take_left']; rfl
  refine kt m3 w3 (nb j + (Hs j).length + O0.length) W0 fl ?_ e92 ?_ (by omega) hW0 gm gw (fun s => SC_ow s (fun l hl => i3 l (by omega) (by omega) (by omega)) (by rw [t3]) (fun K h1 h2 => wR K (by omega))) ⟨by rw [wJ], w1 140 (by omega) (by omega)⟩
  · have q1 : PLs b p (wi m (pq p 26) ((W : Nat) : Int)) w U (nb j + (Hs j).length + O0.length + X.length) (W0 + (W - W0)) Y := by
      rw [← hB2, show W0 + (W - W0) = W by omega]
      exact pl
    have q2 := PLs_forget (PLs_drop q1 (by omega)) (by omega)
    refine PLs_cg q2 (fun l hl => ?_) (fun i _ => by rw [t3]; rfl) (fun i _ => by rw [t3]; rfl) (fun i _ => by rw [t3]; rfl) (fun i _ => by rw [t3]; rfl) (fun K hK => ?_) (fun i _ => ?_) (fun i _ => ?_) (fun i _ => ?_) (fun i _ => ?_)
    · simp only [List.mem_cons, List.not_mem_nil, or_false] at hl
      apply Int32.toInt_inj.mp
      show F m3 (pq p l) = F (wi (wi (wi m (pq p 26) ((W : Nat) : Int)) (pq p 26) ((W0 : Nat) : Int)) (pq p 24) ((nb j + (Hs j).length + O0.length : Nat) : Int)) (pq p l)
      rcases hl with rfl | rfl | rfl | rfl | rfl
      · rw [wi_ne (pq_inj (by omega)), wi_ne (pq_inj (by omega)), wi_ne (pq_inj (by omega))]
        exact congrArg Int32.toInt (i3 4 (by omega) (by omega) (by omega))
      · rw [wi_ne (pq_inj (by omega)), wi_ne (pq_inj (by omega)), wi_ne (pq_inj (by omega))]
        exact congrArg Int32.toInt (i3 5 (by omega) (by omega) (by omega))
      · rw [wi_sm (by omega) (by omega)]; exact e24
      · rw [wi_ne (pq_inj (by omega)), wi_sm (by omega) (by omega)]; exact e26
      · rw [wi_ne (pq_inj (by omega)), wi_ne (pq_inj (by omega)), wi_ne (pq_inj (by omega))]
        exact congrArg Int32.toInt (i3 7 (by omega) (by omega) (by omega))
    · simp only [List.mem_cons, List.not_mem_nil, or_false] at hK
      apply Int32.toInt_inj.mp
      show A (wa w3 94 p ((nb j + (Hs j).length + O0.length : Nat) : Int)) K p = A (wa (wa w 92 p ((W0 : Nat) : Int)) 94 p ((nb j + (Hs j).length + O0.length : Nat) : Int)) K p
      rcases hK with rfl | rfl | rfl | rfl | rfl
      · rw [wa_rne (by omega), wa_rne (by omega), wa_rne (by omega)]
        exact congrArg Int32.toInt (wA 89 p (by omega))
      · rw [wa_rne (by omega), wa_rne (by omega), wa_rne (by omega)]
        exact congrArg Int32.toInt (wA 90 p (by omega))
      · rw [wa_rne (by omega), wa_rne (by omega), wa_sm (by omega) (by omega)]
        exact e92
      · rw [wa_sm (by omega) (by omega), wa_sm (by omega) (by omega)]
      · rw [wa_rne (by omega), wa_rne (by omega), wa_rne (by omega)]
        exact congrArg Int32.toInt (wA 108 p (by omega))
    · show w3.2.2.2 88 _ = w.2.2.2 88 _
      rw [wJ]
    · show w3.2.2.2 93 _ = w.2.2.2 93 _
      rw [wJ]
    · show w3.2.2.2 91 _ = w.2.2.2 91 _
      rw [wJ]
    · show w3.2.2.2 107 _ = w.2.2.2 107 _
      rw [wJ]
  · rw [eO]
    have h23 : A m3 23 = A m 23 := by funext i; show (m3.2.2.1 23 i).toInt = _; rw [e23]; rfl
    refine ⟨⟨⟨fa3, ct3⟩, ⟨?_, ?_⟩, Or.inl ⟨rfl, e12, e152⟩, ⟨?_, ?_, ?_⟩, ?_, ?_, ?_⟩, e05, ⟨by rw [wF 153 (by omega) (by omega)]; exact c8, e154, ?_⟩, ?_, ⟨?_, nd.2⟩, f2, g2, ?_⟩
    · exact (congrArg Int32.toInt (i3 9 (by omega) (by omega) (by omega))).trans r5
    · exact (congrArg Int32.toInt (wA 109 p (by omega))).trans r6
    · exact (congrArg Int32.toInt (g3 1108 (by omega) (by omega) (by omega))).trans r8
    · exact (congrArg Int32.toInt (g3 1109 (by omega) (by omega) (by omega))).trans r9
    · exact (wF 151 (by omega) (by omega)).trans r10
    · exact (wF 133 (by omega) (by omega)).trans r11
    · rw [g3 1106 (by omega) (by omega) (by omega), w1 165 (by omega) (by omega)]; exact r12
    · rw [g3 1107 (by omega) (by omega) (by omega), w1 164 (by omega) (by omega)]; exact r13
    · rw [wF 156 (by omega) (by omega), eOj]; exact c10
    · rw [eOj]
      exact TRr_w c12 (i3 8 (by omega) (by omega) (by omega)) (by rw [t3]) (by rw [wJ]) (fun l hl => w1 l (by omega) (by omega)) e23 pr (by rw [wJ])
    · rw [eOj]
      have := nd.1
      rw [c2] at this
      exact (List.nodup_append.mp this).1
    · rw [eOj, h23, ROs_eq pr, wJ]
      exact c13
where
  wR' {w w3 : MS} {p : Nat} (wR : ∀ K, K ≠ 92 → w3.2.2.1 K = w.2.2.1 K) (K : Nat) (h : K ≠ 92) : w3.2.2.1 K p = w.2.2.1 K p := by rw [wR K h]
end
end
section
set_option maxRecDepth 100000
def NFx (p B0 : Nat) (m0 m : MS) : Prop := FIx p m0 m ∧ (∃ B1 : Nat, B0 ≤ B1 ∧ F m (pq p 24) = ((B1 : Nat) : Int) ∧ ((B1 : Nat) : Int) ≤ F m (pq p 43) ∧ ((B1 : Nat) : Int) ≤ F m (pq p 42)) ∧ ∀ i, i < B0 → m.2.2.1 (pq p 32) i = m0.2.2.1 (pq p 32) i ∧ m.2.2.2 (pq p 33) i = m0.2.2.2 (pq p 33) i
section
variable {N p i j f top cnt B0 B : Nat} {m m0 m2 m3 u : MS} {t x : Int64}
theorem NFx.c (h : NFx p B0 m0 m) : A m 23 = A m0 23 := by funext i; exact h.1.ag (by omega) (by simp)
theorem NFx.h (h : NFx p B0 m0 m) : m.2.2.2 (pq p 2) = m0.2.2.2 (pq p 2) := h.1.jq (by omega) (by simp)
theorem NFx.uj {k : Nat} {g : Nat → Int64} (h : NFx p B0 m0 m) (hk : k ∈ [44, 45, 46]) : NFx p B0 m0 (upJ m k g) := by
  have hk2 : k < 100 := by simp at hk; omega
  refine ⟨FC.J_g h.1 hk, h.2.1, fun i hi => ⟨(h.2.2 i hi).1, ?_⟩⟩
  rw [show (upJ m k g).2.2.2 (pq p 33) = m.2.2.2 (pq p 33) from if_neg (fun c => pq_n (by omega) c.symm)]
  exact (h.2.2 i hi).2
theorem kf_wo {M : Nat} : ∀ {m : MS} {v0 : Nat} {a b c d e : Int32}, PK (fun m2 _ => m2 = m) (hg_Wo_order N M m v0 a b c d e) := by
  induction M with
  | zero => intro m v0 a b c d e; exact pk_none
  | succ M ih =>
    intro m v0 a b c d e
    show PK _ (hb_Wo_order_36 N (hg_Wo_order N M) m v0 a b c d e)
    unfold hb_Wo_order_36 hb_Wo_order_94
    exact pk_br (fun _ => pk_some rfl) (fun _ => pk_br (fun _ => pk_some rfl) (fun _ => pk_ck (fun _ => pk_ck (fun _ => pk_ck (fun _ => pk_ck (fun _ => pk_br (fun _ => ih) (fun _ => pk_some rfl)))))))
theorem kf_cmp {a b : Int32} : PK (fun m2 _ => m2 = m) (hm_JI_compare N m a b) := by
  unfold hm_JI_compare hb_JI_compare_0 hb_JI_compare_19
  exact pk_br (fun _ => pk_br (fun _ => pk_some rfl) (fun _ => pk_some rfl)) (fun _ => pk_some rfl)
theorem kf_alone {v : Nat} : PK (fun m2 _ => m2 = m) (hm_Te_orderAlone N m v t x) := by
  unfold hm_Te_orderAlone hb_Te_orderAlone_0 hb_Te_orderAlone_62 hb_Te_orderAlone_75 hb_Te_orderAlone_107
  have tg : ∀ (u : MS) (z : Int64), hm_Te_tag N u z = some (u, (z >>> ((32 : Int32).toInt64 &&& 63)).toInt32) := fun _ _ => rfl
  rw [tg, bnd_so, tg, bnd_so]
  refine pk_br (fun _ => ?_) (fun _ => ?_)
  · refine pk_br (fun _ => pk_br (fun _ => pk_some rfl) (fun _ => ?_)) (fun _ => pk_br (fun _ => ?_) (fun _ => pk_br (fun _ => ?_) (fun _ => pk_br (fun _ => pk_some rfl) (fun _ => ?_))))
    · unfold hm_Wo_order hb_Wo_order_0
      refine pk_bnd (pk_ck (fun _ => pk_ck (fun _ => pk_ck (fun _ => pk_ck (fun _ => pk_mo kf_wo (fun w r h => ?_))))))
      exact pk_some h
    · exact pk_ck (fun _ => pk_ck (fun _ => pk_bnd (pk_mo kf_cmp (fun w r h => pk_some h))))
    · exact pk_ck (fun _ => pk_ck (fun _ => pk_bnd (pk_mo kf_cmp (fun w r h => pk_some h))))
    · exact pk_bnd (pk_mo kf_cmp (fun w r h => pk_some h))
  · rw [tg, bnd_so]
    exact pk_some rfl
theorem kf_cells {v : Nat} : PK (fun m2 _ => m2 = m) (hm_Te_cellsAt N m v t) := by
  unfold hm_Te_cellsAt hb_Te_cellsAt_0 hb_Te_cellsAt_49
  exact pk_ltq (pk_br (fun _ => pk_some rfl) (fun _ => pk_br (fun _ => pk_ck (fun _ => pk_some rfl)) (fun _ => pk_br (fun _ => pk_ck (fun _ => pk_some rfl)) (fun _ => pk_some rfl))))
theorem kf_parts {a : Int32} : PK (fun m2 _ => m2 = m) (hm_Te_partsOf N m t a) := by
  unfold hm_Te_partsOf hb_Te_partsOf_0 hb_Te_partsOf_28
  rw [show hm_Te_tag N m t = some (m, (t >>> ((32 : Int32).toInt64 &&& 63)).toInt32) from rfl, bnd_so]
  exact pk_br (fun _ => pk_some rfl) (fun _ => pk_br (fun _ => pk_some rfl) (fun _ => pk_some rfl))
theorem kf_orderL {M : Nat} {s : Nat → Int64} : (∀ (u : MS) (v : Nat) (a b : Int32), NFx p B0 m0 u ∧ u.2.2.2 44 = s → PK (fun m2 _ => NFx p B0 m0 m2 ∧ m2.2.2.2 44 = s) ((hg_Te_order N M).1 u v a b)) ∧ ∀ (u : MS) (v : Nat) (a b c d e g : Int32), NFx p B0 m0 u ∧ u.2.2.2 44 = s → PK (fun m2 _ => NFx p B0 m0 m2 ∧ m2.2.2.2 44 = s) ((hg_Te_order N M).2 u v a b c d e g) := by
  induction M with
  | zero => exact ⟨fun _ _ _ _ _ => pk_none, fun _ _ _ _ _ _ _ _ _ => pk_none⟩
  | succ M ih =>
    refine ⟨fun u v a b h => ?_, fun u v a b c d e g h => ?_⟩
    · show PK _ (hb_Te_order_21 N (hg_Te_order N M) u v a b)
      unfold hb_Te_order_21 hb_Te_order_179
      refine pk_br (fun _ => pk_some h) (fun _ => pk_br (fun _ => pk_some h) (fun _ => pk_ck (fun _ => pk_ck (fun _ => pk_bnd (pk_mo kf_alone (fun w r e => ?_))))))
      subst e
      refine pk_br (fun _ => pk_ck (fun _ => pk_ck (fun _ => pk_ck (fun _ => pk_bnd (pk_mo kf_cells (fun w2 r2 e => ?_)))))) (fun _ => pk_some h)
      subst e
      refine pk_ck (fun _ => pk_bnd (pk_mo kf_parts (fun w3 r3 e => ?_)))
      subst e
      exact ih.2 _ _ _ _ _ _ _ _ h
    · show PK _ (hb_Te_order_121 N (hg_Te_order N M) u v a b c d e g)
      unfold hb_Te_order_121 hb_Te_order_173
      refine pk_br (fun _ => ih.1 _ _ _ _ h) (fun _ => pk_br (fun _ => ih.1 _ _ _ _ h) (fun _ => pk_ck (fun _ => pk_ck (fun _ => pk_ltq (pk_ck (fun _ => pk_ck (fun _ => pk_ltq ?_)))))))
      exact ih.2 _ _ _ _ _ _ _ _ ⟨(h.1.uj (by simp)).uj (by simp), h.2⟩
theorem kf_order {v : Nat} (h : NFx p B0 m0 m) : PK (fun m2 _ => NFx p B0 m0 m2 ∧ m2.2.2.2 44 = m.2.2.2 44) (hm_Te_order N m v t x) := by
  unfold hm_Te_order hb_Te_order_0
  refine pk_ck (fun _ => pk_ltq (pk_ck (fun _ => pk_ltq ?_)))
  exact kf_orderL.1 _ _ _ _ ⟨(h.uj (by simp)).uj (by simp), rfl⟩
theorem kf_termL {M : Nat} : ∀ (a b : Int32), PK (fun m2 _ => m2 = m) (hg_Fr_termOf N M m p a b) := by
  induction M with
  | zero => intro _ _; exact pk_none
  | succ M ih =>
    intro a b
    show PK _ (hb_Fr_termOf_7 N (hg_Fr_termOf N M) m p a b)
    unfold hb_Fr_termOf_7
    exact pk_br (fun _ => pk_some rfl) (fun _ => pk_ck (fun _ => pk_br (fun _ => pk_ck (fun _ => pk_some rfl)) (fun _ => ih _ _)))
theorem kf_term {a : Int32} : PK (fun m2 _ => m2 = m) (hm_Fr_termOf N m p a) := by
  unfold hm_Fr_termOf hb_Fr_termOf_0
  exact kf_termL _ _
theorem Co_u {a : Int32} : PK (fun m2 _ => m2 = m) (hm_Co_at N m a) := by
  obtain ⟨r, hr⟩ := Co_any (N := N) (u := m) a
  rw [hr]
  exact pk_some rfl
theorem kf_strL {M : Nat} : ∀ (a b c : Int32) (z : Int64), PK (fun m2 _ => m2 = m) (hg_Ma_fitsString N M m p a z b c) := by
  induction M with
  | zero => intro _ _ _ _; exact pk_none
  | succ M ih =>
    intro a b c z
    show PK _ (hb_Ma_fitsString_18 N (hg_Ma_fitsString N M) m p a z b c)
    unfold hb_Ma_fitsString_18 hb_Ma_fitsString_107
    have tg : ∀ (u : MS) (z : Int64), hm_Te_tag N u z = some (u, (z >>> ((32 : Int32).toInt64 &&& 63)).toInt32) := fun _ _ => rfl
    rw [tg, bnd_so, bnd_so]
    refine pk_br (fun _ => pk_br (fun _ => pk_ck (fun _ => pk_some rfl)) (fun _ => pk_ck (fun _ => pk_some rfl))) (fun _ => pk_br (fun _ => pk_ck (fun _ => pk_bnd (pk_mo Co_u (fun w r e => ?_)))) (fun _ => pk_ck (fun _ => pk_some rfl)))
    subst e
    rw [I_of r, lit0q, e_make, bnd_so]
    exact pk_br (fun _ => pk_ck (fun _ => ih _ _ _ _)) (fun _ => pk_ck (fun _ => pk_some rfl))
theorem kf_str {a : Int32} : PK (fun m2 _ => m2 = m) (hm_Ma_fitsString N m p a t) := by
  unfold hm_Ma_fitsString hb_Ma_fitsString_0
  refine pk_bnd (pk_mo Co_u (fun w r e => ?_))
  subst e
  exact kf_strL _ _ _ _
theorem bindc_m {a : Int32} (hB : F m (pq p 24) = ((B : Nat) : Int)) (h43 : ((B : Nat) : Int) ≤ F m (pq p 43)) (h42 : ((B : Nat) : Int) ≤ F m (pq p 42)) : PK (fun m2 (_ : Unit) => FIx p m m2 ∧ m2.2.2.2 44 = m.2.2.2 44 ∧ F m2 (pq p 24) = ((B + 1 : Nat) : Int) ∧ (((B + 1 : Nat) : Int) ≤ F m2 (pq p 43) ∧ ((B + 1 : Nat) : Int) ≤ F m2 (pq p 42)) ∧ (∀ i, i ≤ B → m2.2.2.1 (pq p 32) i = if i = B then a else m.2.2.1 (pq p 32) i) ∧ ∀ i, i ≤ B → m2.2.2.2 (pq p 33) i = if i = B then t else m.2.2.2 (pq p 33) i) (hm_Fr_bind N m p a t) := by
  have rB := F_r m (pq p 24)
  rw [hB] at rB
  unfold hm_Fr_bind hb_Fr_bind_0
  have core : ∀ u : MS, FIx p m u → u.2.2.2 44 = m.2.2.2 44 → F u (pq p 24) = ((B : Nat) : Int) → (∀ i, i < B → u.2.2.1 (pq p 32) i = m.2.2.1 (pq p 32) i) → (∀ i, i < B → u.2.2.2 (pq p 33) i = m.2.2.2 (pq p 33) i) → PK (fun m2 (_ : Unit) => FIx p m m2 ∧ m2.2.2.2 44 = m.2.2.2 44 ∧ F m2 (pq p 24) = ((B + 1 : Nat) : Int) ∧ (((B + 1 : Nat) : Int) ≤ F m2 (pq p 43) ∧ ((B + 1 : Nat) : Int) ≤ F m2 (pq p 42)) ∧ (∀ i, i ≤ B → m2.2.2.1 (pq p 32) i = if i = B then a else m.2.2.1 (pq p 32) i) ∧ ∀ i, i ≤ B → m2.2.2.2 (pq p 33) i = if i = B then t else m.2.2.2 (pq p 33) i) (hb_Fr_bind_48 N () u p a t) := fun u f s4 hu r1 r2 => by
    unfold hb_Fr_bind_48
    refine pk_ck (fun c1 => pk_ltq (pk_ck (fun c2 => pk_ltq (pk_ltq (pk_some ?_)))))
    have e24 : u.1 (pq p 24) = I ((B : Nat) : Int) := I_F' hu
    have tB : (I ((B : Nat) : Int)).toNatClampNeg = B := tnI rfl (by omega)
    have c1' : B < lnQ u p 42 := by
      have := inb_lt c1
      rw [e24, tB] at this
      exact this
    have c2' : B < lnQ u p 43 := by
      have := inb_lt c2
      rw [show (upA u (pq p 32) (upd (u.2.2.1 (pq p 32)) (u.1 (pq p 24)).toNatClampNeg a)).1 (pq p 24) = u.1 (pq p 24) from rfl, e24, tB] at this
      exact this
    have ln : ∀ k, B < lnQ u p k → ((B + 1 : Nat) : Int) ≤ F u (pq p k) := fun k h => by
      have r := F_r u (pq p k)
      unfold lnQ at h
      rw [I_F (k := pq p k), I_tn r.1 r.2] at h
      omega
    have b42 := ln 42 c1'
    have b43 := ln 43 c2'
    have r42 := F_r u (pq p 42)
    have e25 : (upJ (upA u (pq p 32) (upd (u.2.2.1 (pq p 32)) (u.1 (pq p 24)).toNatClampNeg a)) (pq p 33) (vp_updL ((upA u (pq p 32) (upd (u.2.2.1 (pq p 32)) (u.1 (pq p 24)).toNatClampNeg a)).2.2.2 (pq p 33)) ((upA u (pq p 32) (upd (u.2.2.1 (pq p 32)) (u.1 (pq p 24)).toNatClampNeg a)).1 (pq p 24)).toNatClampNeg t)).1 (pq p 24) = I ((B : Nat) : Int) := e24
    rw [e25, show I ((B : Nat) : Int) + 1 = I ((B + 1 : Nat) : Int) from addN, wi_e]
    refine ⟨FC.wi_q (FC.J_q (FC.A_q f (by omega) (by simp)) (by omega) (by simp)) (by omega) (by simp), ?_, wi_sm (by omega) (by omega), ⟨?_, ?_⟩, fun i hi => ?_, fun i hi => ?_⟩
    · show (if (44 : Nat) = pq p 33 then _ else u.2.2.2 44) = _
      rw [if_neg (pq_n (by omega))]
      exact s4
    · rw [wi_ne (pq_inj (by omega))]
      exact b43
    · rw [wi_ne (pq_inj (by omega))]
      exact b42
    · show (if pq p 32 = pq p 32 then upd (u.2.2.1 (pq p 32)) (u.1 (pq p 24)).toNatClampNeg a else _) i = _
      rw [if_pos rfl, e24, tB]
      show (if i = B then a else u.2.2.1 (pq p 32) i) = _
      by_cases c : i = B
      · rw [if_pos c, if_pos c]
      · rw [if_neg c, if_neg c]
        exact r1 i (by omega)
    · show (if pq p 33 = pq p 33 then vp_updL (u.2.2.2 (pq p 33)) (u.1 (pq p 24)).toNatClampNeg t else _) i = _
      rw [if_pos rfl, e24, tB]
      show (if i = B then t else u.2.2.2 (pq p 33) i) = _
      by_cases c : i = B
      · rw [if_pos c, if_pos c]
      · rw [if_neg c, if_neg c]
        exact r2 i (by omega)
  refine pk_br (fun _ => core m FC.rf rfl hB (fun _ _ => rfl) (fun _ _ => rfl)) (fun _ => pk_ck (fun g1 => pk_ltq (pk_ck (fun g2 => pk_ltq ?_))))
  have gr : ∀ {v : Int32}, grw v = true → 32 ≤ v.toInt ∧ v.toInt ≤ 33554432 := fun {v} h => by
    have := of_decide_eq_true h
    rw [Int32.le_iff_toInt_le, Int32.le_iff_toInt_le] at this
    exact this
  have q43 := gr g1
  obtain ⟨k, hk⟩ : ∃ k : Nat, F m (pq p 43) = ((k : Nat) : Int) := ⟨(F m (pq p 43)).toNat, by have : 32 ≤ F m (pq p 43) := q43.1; omega⟩
  have kb : k < 1000000000 := by have : F m (pq p 43) ≤ 33554432 := q43.2; omega
  obtain ⟨g, eg, gg⟩ := gJ_e (u := m) (q := p) (l := 43) (k := k) (j := 33) hk kb
  have e42 : (gJm m p 33 43).1 (pq p 42) = m.1 (pq p 42) := by
    rw [eg, wi_1 (pq_inj (by omega))]
    rfl
  rw [e42] at g2
  have q42 := gr g2
  obtain ⟨l, hl⟩ : ∃ l : Nat, F m (pq p 42) = ((l : Nat) : Int) := ⟨(F m (pq p 42)).toNat, by have : 32 ≤ F m (pq p 42) := q42.1; omega⟩
  have lb : l < 1000000000 := by have : F m (pq p 42) ≤ 33554432 := q42.2; omega
  have hl2 : F (gJm m p 33 43) (pq p 42) = ((l : Nat) : Int) := (congrArg Int32.toInt e42).trans hl
  obtain ⟨g', eg', gg'⟩ := gI_e (u := gJm m p 33 43) (q := p) (l := 42) (k := l) (j := 32) hl2 lb
  rw [eg', eg]
  refine core _ (FC.wi_q (FC.A_q (FC.wi_q (FC.J_q FC.rf (by omega) (by simp)) (by omega) (by simp)) (by omega) (by simp)) (by omega) (by simp)) ?_ ?_ (fun i hi => ?_) (fun i hi => ?_)
  · show (if (44 : Nat) = pq p 33 then g else m.2.2.2 44) = _
    exact if_neg (pq_n (by omega))
  · rw [wi_ne (pq_inj (by omega))]
    show F (wi (upJ m (pq p 33) g) (pq p 43) ((2 * k : Nat) : Int)) (pq p 24) = _
    rw [wi_ne (pq_inj (by omega))]
    exact hB
  · show (if pq p 32 = pq p 32 then g' else _) i = _
    rw [if_pos rfl, gg' i (by omega), eg]
    rfl
  · show (if pq p 33 = pq p 33 then g else _) i = _
    rw [if_pos rfl]
    exact gg i (by omega)
theorem kf_bind {a : Int32} (h : NFx p B0 m0 m) : PK (fun m2 (_ : Unit) => NFx p B0 m0 m2 ∧ m2.2.2.2 44 = m.2.2.2 44) (hm_Fr_bind N m p a t) := by
  obtain ⟨h1, ⟨B1, b1, b2, b3, b4⟩, h3⟩ := h
  refine pk_mo (bindc_m b2 b3 b4) (fun m2 _ z => ?_)
  obtain ⟨z1, z2, z3, z4, z5, z6⟩ := z
  refine ⟨⟨FIx.tr h1 z1, ⟨B1 + 1, by omega, z3, z4.1, z4.2⟩, fun i hi => ⟨?_, ?_⟩⟩, z2⟩
  · rw [z5 i (by omega), if_neg (by omega)]; exact (h3 i hi).1
  · rw [z6 i (by omega), if_neg (by omega)]; exact (h3 i hi).2
end
section
variable {N p B0 : Nat} {m0 : MS} {Q : MS → Int32 → Prop}
def KFb (p B0 : Nat) (m0 : MS) (s : Nat → Int64) (top : Nat) (m : MS) : Prop := NFx p B0 m0 m ∧ ∀ k, k < top → m.2.2.2 44 k = s k
theorem KFb_k {s : Nat → Int64} {top top2 : Nat} {m m2 : MS} (a : KFb p B0 m0 s top m) (k : NFx p B0 m0 m2 ∧ m2.2.2.2 44 = m.2.2.2 44) (ht : top2 ≤ top) : KFb p B0 m0 s top2 m2 := ⟨k.1, fun i hi => by rw [k.2]; exact a.2 i (by omega)⟩
theorem KFb_l {s : Nat → Int64} {top top2 : Nat} {m : MS} (a : KFb p B0 m0 s top m) (ht : top2 ≤ top) : KFb p B0 m0 s top2 m := KFb_k a ⟨a.1, rfl⟩ ht
theorem KFb_w {s : Nat → Int64} {top : Nat} {m : MS} {z : Int64} (a : KFb p B0 m0 s top m) : KFb p B0 m0 (fun k => if k = top then z else s k) (top + 1) (upJ m 44 (vp_updL (m.2.2.2 44) top z)) := by
  refine ⟨a.1.uj (by simp), fun k hk => ?_⟩
  rw [show (upJ m 44 (vp_updL (m.2.2.2 44) top z)).2.2.2 44 k = if k = top then z else m.2.2.2 44 k from wj_row]
  by_cases c : k = top
  · rw [if_pos c]
    exact (if_pos c).symm
  · rw [if_neg c]
    show m.2.2.2 44 k = (if k = top then z else s k)
    rw [if_neg c]
    exact a.2 k (by omega)
theorem tup_push {v4 v6 : Int32} {z : Int64} {nn : Nat} (hv : va z = ((vn z : Nat) : Int)) (hv2 : vn z + nn < 100000) (hn : nn ≤ 8) : ∀ (d M top : Nat) (s : Nat → Int64) (m : MS), d ≤ nn → top + d < 200000 → KFb p B0 m0 s top m → (∀ (M2 : Nat) (m2 : MS), KFb p B0 m0 (fun k => if top ≤ k then m0.2.2.2 (pq p 2) (vn z + (d - (k - top))) else s k) (top + d) m2 → PK Q ((hg_Ma_fit N M2).1 m2 p (v4 + 2) (I ((top + d : Nat) : Int)) (v6 + 1))) → PK Q ((hg_Ma_fit N M).2 m p v4 (I ((top : Nat) : Int)) v6 z (I ((d : Nat) : Int))) := by
  intro d
  induction d with
  | zero =>
    intro M top s m _ ht kb k
    cases M with
    | zero => exact pk_none
    | succ M =>
      show PK Q (hb_Ma_fit_268 N (hg_Ma_fit N M) m p v4 (I ((top : Nat) : Int)) v6 z (I ((0 : Nat) : Int)))
      unfold hb_Ma_fit_268 hb_Ma_fit_364
      rw [show decide (I ((0 : Nat) : Int) ≤ 0) = true from rfl, br_tq]
      refine k M m ⟨kb.1, fun i hi => ?_⟩
      show m.2.2.2 44 i = (if top ≤ i then m0.2.2.2 (pq p 2) (vn z + (0 - (i - top))) else s i)
      rw [if_neg (by omega)]
      exact kb.2 i (by omega)
  | succ d ih =>
    intro M top s m hd ht kb k
    cases M with
    | zero => exact pk_none
    | succ M =>
      show PK Q (hb_Ma_fit_268 N (hg_Ma_fit N M) m p v4 (I ((top : Nat) : Int)) v6 z (I ((d + 1 : Nat) : Int)))
      unfold hb_Ma_fit_268
      rw [lit0q, decI (by omega) (by omega) (by omega) (by omega), decide_eq_false (by omega), br_fq]
      refine pk_ck (fun _ => pk_ck (fun _ => pk_ltq ?_))
      rw [valI, hv, addN, tnI (n := vn z + (d + 1)) rfl (by omega), tnI (n := top) rfl (by omega), show I ((top : Nat) : Int) + 1 = I ((top + 1 : Nat) : Int) from addN, show I ((d + 1 : Nat) : Int) + (-1) = I ((d : Nat) : Int) by rw [m1I, I_add]; congr 1; omega, kb.1.h]
      refine ih M (top + 1) _ _ (by omega) (by omega) (KFb_w kb) (fun M2 m2 kb2 => ?_)
      rw [show top + 1 + d = top + (d + 1) by omega] at kb2 ⊢
      refine k M2 m2 ⟨kb2.1, fun i hi => ?_⟩
      rw [kb2.2 i hi]
      dsimp only
      by_cases c : top + 1 ≤ i
      · rw [if_pos c]
        rw [show (if top ≤ i then m0.2.2.2 (pq p 2) (vn z + (d + 1 - (i - top))) else s i) = m0.2.2.2 (pq p 2) (vn z + (d + 1 - (i - top))) from if_pos (by omega)]
        rw [show d - (i - (top + 1)) = d + 1 - (i - top) by omega]
      · rw [if_neg c]
        by_cases c2 : i = top
        · rw [show (if i = top then m0.2.2.2 (pq p 2) (vn z + (d + 1)) else s i) = m0.2.2.2 (pq p 2) (vn z + (d + 1)) from if_pos c2]
          rw [show (if top ≤ i then m0.2.2.2 (pq p 2) (vn z + (d + 1 - (i - top))) else s i) = m0.2.2.2 (pq p 2) (vn z + (d + 1 - (i - top))) from if_pos (by omega)]
          rw [show d + 1 - (i - top) = d + 1 by omega]
        · rw [show (if i = top then m0.2.2.2 (pq p 2) (vn z + (d + 1)) else s i) = s i from if_neg c2]
          rw [show (if top ≤ i then m0.2.2.2 (pq p 2) (vn z + (d + 1 - (i - top))) else s i) = s i from if_neg (by omega)]
end
end
section
set_option maxRecDepth 100000
section
variable {N p B0 : Nat} {m0 : MS} {Q : MS → Int32 → Prop}
theorem in_va {z : Int64} {n : Nat} (e : inb (z.toInt32) n = true) : va z = ((vn z : Nat) : Int) ∧ vn z < n := by
  have r := va_r z
  unfold inb at e
  have e2 := of_decide_eq_true e
  rw [valI, lit0q, I_lt r.1 r.2 (by omega) (by omega)] at e2
  have h0 : 0 ≤ va z := by omega
  have hv : va z = ((vn z : Nat) : Int) := by unfold vn; omega
  refine ⟨hv, ?_⟩
  rw [hv, tnI (n := vn z) rfl (by omega)] at e2
  omega
theorem pc_one (hQ : ∀ m2, NFx p B0 m0 m2 → Q m2 (-1)) : ∀ {f i j : Nat}, PCq (A m0 23) f i j → ∀ (M top cnt : Nat) (s : Nat → Int64) (m : MS), KFb p B0 m0 s (top + 1) m → j < 24000 → cnt ≤ i → top < 100000 → (∀ (M2 cnt2 : Nat) (m2 : MS), KFb p B0 m0 s top m2 → cnt2 ≤ j → PK Q ((hg_Ma_fit N M2).1 m2 p (I ((j : Nat) : Int)) (I ((top : Nat) : Int)) (I ((cnt2 : Nat) : Int)))) → PK Q ((hg_Ma_fit N M).1 m p (I ((i : Nat) : Int)) (I ((top + 1 : Nat) : Int)) (I ((cnt : Nat) : Int)))
  | 0, _, _, z => z.elim
  | f + 1, i, j, z => by
    intro M top cnt s m kb hj hc ht kk
    have ij := PCq_lt z
    cases M with
    | zero => exact pk_none
    | succ M =>
    show PK Q (hb_Ma_fit_17 N (hg_Ma_fit N M) m p (I ((i : Nat) : Int)) (I ((top + 1 : Nat) : Int)) (I ((cnt : Nat) : Int)))
    unfold hb_Ma_fit_17 hb_Ma_fit_57 hb_Ma_fit_262 hb_Ma_fit_364
    have eT : I ((top + 1 : Nat) : Int) + (-1) = I ((top : Nat) : Int) := by rw [m1I, I_add]; congr 1; omega
    have e1 : I ((i : Nat) : Int) + 1 = I ((i + 1 : Nat) : Int) := addN
    have ec : I ((cnt : Nat) : Int) + 1 = I ((cnt + 1 : Nat) : Int) := addN
    have c8 : decide (I (A m0 23 i) = 8) = false := by
      rcases z with ⟨z, -⟩ | ⟨z, -⟩ | ⟨z | z, -⟩ | ⟨z, -⟩ | ⟨z, -⟩ | ⟨z, -⟩ <;> rw [z] <;> rfl
    rw [show (1000000000 : Int32) = I 1000000000 from rfl, decI (by omega) (by omega) (by omega) (by omega), decide_eq_false (by omega), br_fq, Co_e (k := i) rfl (by omega), bnd_so, kb.1.c, c8, br_fq]
    refine pk_br (fun _ => pk_some (hQ _ kb.1)) (fun _ => pk_br (fun c9 => pk_ck (fun _ => ?_)) (fun _ => pk_some (hQ _ kb.1)))
    have t9 : top + 8 < 2048 := by
      have c := of_decide_eq_true c9
      rw [eT, show (8 : Int32) = I ((8 : Nat) : Int) from rfl, addN, show (2048 : Int32) = I 2048 from rfl, I_lt (by omega) (by omega) (by omega) (by omega)] at c
      omega
    rw [eT, e1, Co_e (k := i + 1) rfl (by omega), bnd_so, Co_e (k := i) rfl (by omega), bnd_so, kb.1.c, ec]
    have st : ∀ m2, NFx p B0 m0 m2 ∧ m2.2.2.2 44 = m.2.2.2 44 → KFb p B0 m0 s top m2 := fun m2 kx => KFb_k kb kx (by omega)
    have s0 : KFb p B0 m0 s top m := KFb_l kb (by omega)
    rcases z with ⟨z, z1⟩ | ⟨z, l, z1, z2⟩ | ⟨z | z, z1⟩ | ⟨z, z1⟩ | ⟨z, n, z1, z2, ci, z3, z4, z5⟩ | ⟨z, hh, z1, z2⟩
    · rw [z, show decide (I 1 = 1) = true from rfl, br_tq]
      refine pk_bnd (pk_mo Co_u (fun w r e => ?_))
      subst e
      refine pk_bnd (pk_some ?_)
      refine pk_br (fun _ => ?_) (fun _ => pk_some (hQ _ kb.1))
      rw [show I ((i : Nat) : Int) + 3 = I ((i + 3 : Nat) : Int) from addN, ← z1]
      exact kk M (cnt + 1) _ s0 (by omega)
    · rw [z, show decide (I 2 = 1) = false from rfl, br_fq, show decide (I 2 = 2) = true from rfl, br_tq]
      refine pk_bnd (pk_mo kf_str (fun w r e => ?_))
      subst e
      refine pk_br (fun _ => pk_some (hQ _ kb.1)) (fun _ => ?_)
      rw [z1, show (2 : Int32) = I ((2 : Nat) : Int) from rfl, addN, addN, show i + (2 + l) = j by omega]
      exact kk M (cnt + 1) _ s0 (by omega)
    · rw [z, show decide (I 3 = 1) = false from rfl, br_fq, show decide (I 3 = 2) = false from rfl, br_fq, show decide (I 3 = 3) = true from rfl, br_tq]
      refine pk_bnd (pk_mo kf_term (fun w r e => ?_))
      subst e
      refine pk_bnd (pk_mo (kf_order (p := p) (B0 := B0) (m0 := m0) kb.1) (fun w2 r2 kx => ?_))
      refine pk_br (fun _ => ?_) (fun _ => pk_some (hQ _ kx.1))
      rw [show I ((i : Nat) : Int) + 2 = I ((i + 2 : Nat) : Int) from addN, ← z1]
      exact kk M (cnt + 1) _ (st _ kx) (by omega)
    · rw [z, show decide (I 4 = 1) = false from rfl, br_fq, show decide (I 4 = 2) = false from rfl, br_fq, show decide (I 4 = 3) = false from rfl, br_fq, show decide (I 4 = 4) = true from rfl, br_tq]
      refine pk_bnd (pk_mo (kf_bind kb.1) (fun w r kx => ?_))
      rw [show I ((i : Nat) : Int) + 2 = I ((i + 2 : Nat) : Int) from addN, ← z1]
      exact kk M (cnt + 1) _ (st _ kx) (by omega)
    · rw [z, show decide (I 5 = 1) = false from rfl, br_fq, show decide (I 5 = 2) = false from rfl, br_fq, show decide (I 5 = 3) = false from rfl, br_fq, show decide (I 5 = 4) = false from rfl, br_fq, show decide (I 5 = 5) = true from rfl, br_tq]
      rw [show i + 1 = j by omega]
      exact kk M (cnt + 1) _ s0 (by omega)
    · rw [z, show decide (I 6 = 1) = false from rfl, br_fq, show decide (I 6 = 2) = false from rfl, br_fq, show decide (I 6 = 3) = false from rfl, br_fq, show decide (I 6 = 4) = false from rfl, br_fq, show decide (I 6 = 5) = false from rfl, br_fq, show decide (I 6 = 6) = true from rfl, br_tq, e_tag, bnd_so]
      refine pk_br (fun _ => pk_ck (fun hi => pk_br (fun _ => ?_) (fun _ => pk_some (hQ _ kb.1)))) (fun _ => pk_some (hQ _ kb.1))
      obtain ⟨v1, v2⟩ := in_va hi
      rw [z1]
      refine tup_push (nn := n) v1 (by omega) z2 n M top s m (Nat.le_refl _) (by omega) s0 (fun M2 m2 kb2 => ?_)
      have inn : ∀ (d M3 cnt3 : Nat) (m3 : MS), d ≤ n → KFb p B0 m0 (fun k => if top ≤ k then m0.2.2.2 (pq p 2) (vn (m.2.2.2 44 (I ((top : Nat) : Int)).toNatClampNeg) + (n - (k - top))) else s k) (top + d) m3 → cnt3 ≤ ci (n - d) → PK Q ((hg_Ma_fit N M3).1 m3 p (I ((ci (n - d) : Nat) : Int)) (I ((top + d : Nat) : Int)) (I ((cnt3 : Nat) : Int))) := by
        intro d
        induction d with
        | zero =>
          intro M3 cnt3 m3 _ kb3 hc3
          rw [Nat.sub_zero, z4] at hc3 ⊢
          refine kk M3 cnt3 m3 ⟨kb3.1, fun k hk => ?_⟩ hc3
          rw [kb3.2 k (by omega)]
          exact if_neg (by omega)
        | succ d ih =>
          intro M3 cnt3 m3 hd kb3 hc3
          have p5 := z5 (n - (d + 1)) (by omega)
          rw [show n - (d + 1) + 1 = n - d by omega] at p5
          have le2 : ci (n - d) ≤ j := by
            have := up_le (c := ci) (n := n) (fun k hk => Nat.le_of_lt (PCq_lt (z5 k hk))) d (n - d) (by omega)
            rw [show n - d + d = n by omega, z4] at this
            exact this
          exact pc_one hQ p5 M3 (top + d) cnt3 _ m3 kb3 (by omega) hc3 (by omega) (fun M4 cnt4 m4 kb4 hc4 => ih M4 cnt4 m4 (by omega) kb4 hc4)
      have := inn n M2 (cnt + 1) m2 (Nat.le_refl _) kb2 (by rw [Nat.sub_self, z3]; omega)
      rw [Nat.sub_self, z3] at this
      rw [show I ((i : Nat) : Int) + 2 = I ((i + 2 : Nat) : Int) from addN, show I ((cnt : Nat) : Int) + 1 = I ((cnt + 1 : Nat) : Int) from addN]
      exact this
    · rw [z, show decide (I 7 = 1) = false from rfl, br_fq, show decide (I 7 = 2) = false from rfl, br_fq, show decide (I 7 = 3) = false from rfl, br_fq, show decide (I 7 = 4) = false from rfl, br_fq, show decide (I 7 = 5) = false from rfl, br_fq, show decide (I 7 = 6) = false from rfl, br_fq, show decide (I 7 = 7) = true from rfl, br_tq, e_tag, bnd_so]
      refine pk_br (fun _ => pk_ck (fun _ => pk_ck (fun _ => pk_ltq (pk_ck (fun _ => pk_ck (fun _ => pk_ltq ?_)))))) (fun _ => pk_some (hQ _ kb.1))
      rw [show I ((top : Nat) : Int) + 1 = I ((top + 1 : Nat) : Int) from addN, show I ((top : Nat) : Int) + 2 = I ((top + 1 + 1 : Nat) : Int) from addN, tnI (n := top) rfl (by omega), tnI (n := top + 1) rfl (by omega)]
      have k1 := KFb_w (z := m.2.2.2 (pq p 2) ((m.2.2.2 44 top).toInt32 + 1).toNatClampNeg) s0
      have k2 := KFb_w (z := (upJ m 44 (vp_updL (m.2.2.2 44) top (m.2.2.2 (pq p 2) ((m.2.2.2 44 top).toInt32 + 1).toNatClampNeg))).2.2.2 (pq p 2) ((m.2.2.2 44 top).toInt32).toNatClampNeg) k1
      have l2 := PCq_lt z2
      refine pc_one hQ z1 M (top + 1) (cnt + 1) _ _ k2 (by omega) (by omega) (by omega) (fun M2 cnt2 m2 kb2 hc2 => ?_)
      refine pc_one hQ z2 M2 top cnt2 _ m2 kb2 hj hc2 ht (fun M3 cnt3 m3 kb3 hc3 => kk M3 cnt3 m3 ⟨kb3.1, fun k hk => ?_⟩ hc3)
      rw [kb3.2 k hk]
      dsimp only
      rw [if_neg (by omega), if_neg (by omega)]
theorem doom_m : ∀ (r : Nat) (i idx : Nat) (s : Nat → Int64), DMr (A m0 23) s r i idx → ∀ (M cnt : Nat) (m : MS), KFb p B0 m0 s (idx + 1) m → cnt ≤ i → idx < 100000 → PK (fun m2 z => z = I (-1) ∧ NFx p B0 m0 m2) ((hg_Ma_fit N M).1 m p (I ((i : Nat) : Int)) (I ((idx + 1 : Nat) : Int)) (I ((cnt : Nat) : Int))) := by
  intro r
  induction r with
  | zero =>
    intro i idx s dm M cnt m kb hc hx
    obtain ⟨hi, dm⟩ := dm
    cases M with
    | zero => exact pk_none
    | succ M =>
    show PK _ (hb_Ma_fit_17 N (hg_Ma_fit N M) m p (I ((i : Nat) : Int)) (I ((idx + 1 : Nat) : Int)) (I ((cnt : Nat) : Int)))
    unfold hb_Ma_fit_17 hb_Ma_fit_57 hb_Ma_fit_364
    have eT : I ((idx + 1 : Nat) : Int) + (-1) = I ((idx : Nat) : Int) := by rw [m1I, I_add]; congr 1; omega
    have c8 : decide (I (A m0 23 i) = 8) = false := by
      rcases dm with ⟨z, -⟩ | ⟨z, -⟩ <;> rw [z] <;> rfl
    rw [show (1000000000 : Int32) = I 1000000000 from rfl, decI (by omega) (by omega) (by omega) (by omega), decide_eq_false (by omega), br_fq, Co_e (k := i) rfl (by omega), bnd_so, kb.1.c, c8, br_fq]
    refine pk_br (fun _ => pk_some ⟨rfl, kb.1⟩) (fun _ => pk_br (fun _ => pk_ck (fun _ => ?_)) (fun _ => pk_some ⟨rfl, kb.1⟩))
    rw [eT, show I ((i : Nat) : Int) + 1 = I ((i + 1 : Nat) : Int) from addN, Co_e (k := i + 1) rfl (by omega), bnd_so, Co_e (k := i) rfl (by omega), bnd_so, kb.1.c, tnI (n := idx) rfl (by omega), kb.2 idx (by omega)]
    rcases dm with ⟨z, z1⟩ | ⟨z, z1⟩
    · rw [z, show decide (I 7 = 1) = false from rfl, br_fq, show decide (I 7 = 2) = false from rfl, br_fq, show decide (I 7 = 3) = false from rfl, br_fq, show decide (I 7 = 4) = false from rfl, br_fq, show decide (I 7 = 5) = false from rfl, br_fq, show decide (I 7 = 6) = false from rfl, br_fq, show decide (I 7 = 7) = true from rfl, br_tq, e_tag, bnd_so, show (7 : Int32) = I 7 from rfl, decE (so_r _).1 (so_r _).2 (by omega) (by omega), decide_eq_false z1, br_fq]
      exact pk_some ⟨rfl, kb.1⟩
    · rw [z, show decide (I 1 = 1) = true from rfl, br_tq, show I ((i : Nat) : Int) + 2 = I ((i + 2 : Nat) : Int) from addN, Co_e (k := i + 2) rfl hi, bnd_so, kb.1.c, e_make, bnd_so, dec_lg0 z1, br_fq]
      exact pk_some ⟨rfl, kb.1⟩
  | succ r ih =>
    intro i idx s dm M cnt m kb hc hx
    obtain ⟨f, j, z1, z0, z2, z3⟩ := dm
    obtain ⟨k, rfl⟩ : ∃ k, idx = k + 1 := ⟨idx - 1, by omega⟩
    refine pc_one (fun _ k => ⟨rfl, k⟩) z1 M (k + 1) cnt s m kb z0 hc hx (fun M2 cnt2 m2 kb2 hc2 => ?_)
    rw [Nat.add_sub_cancel] at z3
    exact ih j k s z3 M2 cnt2 m2 kb2 hc2 (by omega)
end
end
