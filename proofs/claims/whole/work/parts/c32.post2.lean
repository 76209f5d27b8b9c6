/-! post there, message here -/
set_option maxRecDepth 100000
/-- what comes of a message: nothing; no room; it comes -/
def MPs (q B W Y e e' : Nat) (m w m2 w2 : MS) : Prop := (Y = 30 ∧ m2 = m ∧ w2 = w) ∨ (∃ m1 w1, XMm q m m1 ∧ XMr q w w1 ∧ m1.1 (pq q 5) = w1.2.2.1 90 q ∧ m2 = enS m1 q (mk 1 20) q e ∧ w2 = enR w1 q 0 ((q : Nat) : Int) (mk 1 20) e') ∨ (Y < 30 ∧ ∃ U2, PSTs q U2 B W Y m w m2 w2)
/-- its own term, which waits uppermost -/
def OWs (b : Int → Nat → Nat → Prop) (Fv : Int64 → Int64 → Prop) (P : Int64 → Prop) (P' : Int64 → Prop) (m : MS) (q U W : Nat) (ow kd ow' kd' : Nat → Nat) (src : Option Nat) (t : Int64) (wr : Int) (o : Nat) (x : Int64) (s : Nat) : Prop := src = some q ∧ o = q ∧ wr = 0 ∧ 1 ≤ W ∧ t = m.2.2.2 (pq q 35) (W - 1) ∧ RTb b t x ∧ (∃ f, SZc (m.2.2.2 (pq q 2)) U ow kd Fv P f t s) ∧ GT U ow' kd' P' x
section
variable {b b2 : Int → Nat → Nat → Prop} {N n q U B W Y a s o e e' sort : Nat} {ow kd ow' kd' : Nat → Nat} {Fv Fv' : Int64 → Int64 → Prop} {P P' : Int64 → Prop} {m w m1 w1 m2 w2 m3 w3 : MS} {t x r r2 : Int64} {v3 v4 wr : Int} {src : Option Nat}
theorem OWs_sr (h : OWs b Fv P P' m q U W ow kd ow' kd' src t wr o x s) (pl : PLs b q m w U B W Y) (gm : HPc (m.2.2.2 (pq q 2)) U ow kd Fv P) (gw : HP (hp w q) U ow' kd' Fv' P') (hq : q < 24) : SRs Fv P Fv' P' m w q U src t wr o x s := by
  obtain ⟨rfl, rfl, rfl, -, -, h4, ⟨f, h5⟩, h6⟩ := h
  have hU := pl.1.1.2.2
  obtain ⟨f', s', z'⟩ := HP_sz gw h6
  have es := SZ_iso pl.1.2.1 h4 h5 z'
  subst es
  exact ⟨by omega, Or.inr ⟨o, b, U, ow, kd, f, U, ow', kd', f', rfl, ⟨gm, by omega, fun _ => Nat.le_refl _⟩, ⟨gw, hU, fun _ => Nat.le_refl _⟩, pl.1.2.1.w, h5, Or.inl ⟨rfl, h4, z'⟩⟩⟩
/-- behind the sizes -/
theorem p50_pp (hz : (a = 0 ∧ sort = 2) ∨ (a = 4 ∧ sort = 0) ∨ (a = 5 ∧ sort = 1)) (hq : q < 24) (hal : F m (pq q 9) ≠ 3) (hal' : A w 109 q ≠ 3) (pl : PLs b q m w U B W Y) (hY : Y < 30) (pt : PTQ m q U ow kd Fv P B W Y) (cx : CTX Fv P m) (cw : CX w q (hp w q) U ow' kd' Fv' P' W B Y) (sr : SRs Fv P Fv' P' m w q U src t wr o x s) (hs : (src ≠ some q ∧ (src = none ∨ o ≠ q)) ∨ OWs b Fv P P' m q U W ow kd ow' kd' src t wr o x s) (he : F m 955 = ((e : Nat) : Int) ∧ e < 24) (he' : F w 150 = ((e' : Nat) : Int) ∧ e' < 4000) (hN : 2200000 ≤ N) (fm : FR [] [] [] [45] m m1) :
    PP (fun m2 (_ : Unit) w2 (_ : Unit) => MPs q B W Y e e' m w m2 w2) (hb_Wl_post_41 N () m1 q (I ((a : Nat) : Int)) (I v3) (I v4) t src (I ((s : Nat) : Int))) (fb_M_message_50 N () w (I q) (I ((sort : Nat) : Int)) (I v4) (I v3) (I wr) (I o) x (I ((a : Nat) : Int)) (I (if wr ≤ 0 then 0 else 3))) := by
  have ho : o < 25 := sr.1
  obtain ⟨z, n', owx, kdx, fx, g1, g2, g3, g4, g5⟩ := SRs_z sr
  have hz1 := SZ_1000 g1 g2 g3
  unfold fb_M_message_50 hb_Wl_post_41
  refine r_bnd (pk_mo (pk_ok (copySize_ok (N := N) g1 g2 ho g3 (by omega))) (fun w1 r1 h1 => ?_))
  obtain ⟨f1, rfl⟩ := h1
  rw [hand_e, bnd_so]
  -- sizes
  generalize hzc : (if z ≤ 500 then z else 501 : Nat) = zc
  have hzc2 : (z ≤ 500 ∧ zc = z) ∨ (500 < z ∧ zc = 501) := by
    by_cases c : z ≤ 500
    · rw [if_pos c] at hzc; omega
    · rw [if_neg c] at hzc; omega
  obtain ⟨wq, hwq, hs2⟩ : ∃ wq : Nat, (if wr ≤ 0 then 0 else 3 : Int) = ((wq : Nat) : Int) ∧ s = wq + z := by
    rcases g4 with ⟨c, d⟩ | ⟨c, d⟩
    · exact ⟨0, by rw [if_pos (by omega)]; rfl, by omega⟩
    · exact ⟨3, by rw [if_neg (by omega)]; rfl, by omega⟩
  have ha5 : a ≤ 5 := by omega
  have hw3 : wq ≤ 3 := by
    by_cases c : wr ≤ 0
    · rw [if_pos c] at hwq; omega
    · rw [if_neg c] at hwq; omega
  rw [hwq, show I ((a : Nat) : Int) + I ((s : Nat) : Int) = I ((a + s : Nat) : Int) from addN, show I ((a : Nat) : Int) + I ((wq : Nat) : Int) + I ((zc : Nat) : Int) = I ((a + wq + zc : Nat) : Int) by rw [addN, addN]]
  -- states
  have i1 : ∀ k, m1.1 k = m.1 k := fun k => fm.1 k (by simp)
  have j1 : ∀ k, k < 100 → m1.2.2.2 (pq q k) = m.2.2.2 (pq q k) := fun k hk => fm.2.2.2 _ (by simp; unfold pq; omega)
  have j1' : ∀ j k, k < 100 → m1.2.2.2 (pq j k) = m.2.2.2 (pq j k) := fun j k hk => fm.2.2.2 _ (by simp; unfold pq; omega)
  have pl1 : PLs b q m1 w1 U B W Y := PLs_cg pl (fun k _ => i1 _) (fun i _ => by rw [j1 2 (by omega)]) (fun i _ => by rw [j1 33 (by omega)]) (fun i _ => by rw [j1 35 (by omega)]) (fun i _ => by rw [j1 6 (by omega)]) (fun k _ => by rw [f1.2.2.1 k (by simp)]) (fun i _ => by rw [f1.2.2.2 88 (by simp)]) (fun i _ => by rw [f1.2.2.2 93 (by simp)]) (fun i _ => by rw [f1.2.2.2 91 (by simp)]) (fun i _ => by rw [f1.2.2.2 107 (by simp)])
  have pt1 : PTQ m1 q U ow kd Fv P B W Y := PTQ_same pt (fun k _ => i1 _) (fun k hk => j1 k (by simp at hk; omega))
  have cx1 : CTX Fv P m1 := CTX_fr cx (i1 22) (fm.2.2.1 3 (by simp))
  have rgo : RG ((o : Nat) : Int) := ⟨by omega, by omega⟩
  have f140 : F (wl (wi w1 140 ((o : Nat) : Int)) 139 x) 140 = ((o : Nat) : Int) := by
    show F (wi w1 140 ((o : Nat) : Int)) 140 = _
    rw [F_wi rgo.1 rgo.2, if_pos rfl]
  have pl2 : PLs b q m1 (wl (wi w1 140 ((o : Nat) : Int)) 139 x) U B W Y := PLs_h pl1
  -- its own term, there and here
  have ownx : ((o : Nat) : Int) = ((q : Nat) : Int) → isH x → OWs b Fv P P' m q U W ow kd ow' kd' src t wr o x s := fun c zx => by
    rcases hs with ⟨-, hs | hs⟩ | hs
    · subst hs
      obtain ⟨-, sr⟩ := sr
      rcases sr with ⟨-, -, y1, y2, -⟩ | ⟨j, bS, n, ow, kd, f, n', ow', kd', f', e, -⟩
      · rw [y2] at zx; exact absurd zx y1
      · cases e
    · exact absurd (by omega) hs
    · exact hs
  have rz : RTZ b m1 (wl (wi w1 140 ((o : Nat) : Int)) 139 x) q B W Y W B Y := PLs_hz pl1 rgo (fun c zx => by
    obtain ⟨-, -, -, y1, y2, y3, -⟩ := ownx c zx
    exact ⟨pq q 35, W - 1, Or.inr (Or.inl ⟨rfl, by omega⟩), by rw [j1 35 (by omega), ← y2]; exact y3⟩)
  have px : ((o : Nat) : Int) = ((q : Nat) : Int) → GT U ow' kd' P' x := fun c => by
    by_cases zx : isH x
    · exact (ownx c zx).2.2.2.2.2.2.2
    · have := SZ_gt g3
      rcases this with y | y
      · exact Or.inl y
      · exact absurd y.1 zx
  have hpw : hp (wl (wi w1 140 ((o : Nat) : Int)) 139 x) q = hp w q := by
    unfold hp
    show (fun i => w1.2.2.2 88 (500 * q + i)) = _
    rw [f1.2.2.2 88 (by simp)]
  have cw2 : CX (wl (wi w1 140 ((o : Nat) : Int)) 139 x) q (hp (wl (wi w1 140 ((o : Nat) : Int)) 139 x) q) U ow' kd' Fv' P' W B Y := by
    obtain ⟨x1, x2, x3, x4, x5, x6, x7, x8, x9, x10, x11⟩ := cw
    have ea : ∀ k, A (wl (wi w1 140 ((o : Nat) : Int)) 139 x) k q = A w k q := fun k => by show A w1 k q = _; exact FR.A f1 (by simp)
    have ej : ∀ k, k ≠ 141 → (wl (wi w1 140 ((o : Nat) : Int)) 139 x).2.2.2 k = w.2.2.2 k := fun k hk => by show w1.2.2.2 k = _; exact f1.2.2.2 k (by simpa using hk)
    refine ⟨rfl, by rw [hpw]; exact x2, x3, x4, ⟨by rw [ea]; exact x5.1, x5.2⟩, ⟨by rw [ea]; exact x6.1, x6.2⟩, ⟨by rw [ea]; exact x7.1, x7.2⟩, fun i hi => by rw [ej 91 (by omega)]; exact x8 i hi, fun i hi => by rw [ej 93 (by omega)]; exact x9 i hi, fun i hi => by rw [ej 107 (by omega)]; exact x10 i hi, fun c => ?_⟩
    rw [f140] at c
    exact px c
  generalize hw2 : wl (wi w1 140 ((o : Nat) : Int)) 139 x = w2 at *
  have xw2 : XMr q w w2 := by rw [← hw2]; exact XMr.tr (XMr.sz f1) XMr.hand
  have e139 : w2.2.1 139 = x := by rw [← hw2]; rfl
  have hu2 : A w2 89 q = ((U : Nat) : Int) := pl2.1.1.2.1
  refine pp_bb (pp_mo (pp_pr (pp_pl (want_pd (N := N) (c := a + s) (c' := a + wq + zc) pt1 cx1 cw2 pl2 rz ⟨by omega, by omega⟩ (by omega) hN) (pk_ok (want_ok (N := N) (x := ((a + s : Nat) : Int)) pt1 cx1 ⟨by omega, by omega⟩ (by omega)))) (pk_ok (wants_ok (N := N) (k := a + wq + zc) cw2 hu2 (by omega) (by omega)))) (fun m3 r3 w3 r3' hw => ?_))
  obtain ⟨⟨⟨b2, U2, pl3, hr, xm, xr, -, ⟨owr, kdr, cx3⟩, o1, o2⟩, -, U3, ow3, kd3, pt3, -, -, -, sW⟩, n9, ow9, kd9, fd, R, ⟨r1, -, -, -, -, r6, -, -, -, -, r11, -⟩, -⟩ := hw
  have eU : U3 = U2 := by
    have h1 := pt3.1.1
    have h2 := pl3.1.1.1
    omega
  subst eU
  have xm3 : XMm q m m3 := XMm.tr (FR.mo fm (by simp) (by simp) (by simp) (by simp)) (XMm.want xm)
  have xr3 : XMr q w w3 := XMr.tr xw2 (XMr.want xr)
  have xr4 : XMr q w (wl (wi w3 140 (-1)) 139 (mk 6 0)) := XMr.tr xr3 XMr.hand
  rcases hr with ⟨rfl, rfl⟩ | ⟨rfl, rfl, hU⟩
  · -- no room
    rw [show decide ((0 : Int32) = 0) = true from rfl, br_t, br_t, handN_e, bnd_so]
    unfold hm_Wl_endsBy hb_Wl_endsBy_0
    have h9 : F m3 (pq q 9) ≠ 3 := by
      rw [FR.F xm3 (by simp; exact ⟨pq_inj (by omega), pq_inj (by omega), pq_inj (by omega)⟩)]
      exact hal
    have h955 : F m3 955 = ((e : Nat) : Int) := by
      rw [FR.F xm3 (by simp; unfold pq; omega)]
      exact he.1
    have h109 : A (wl (wi w3 140 (-1)) 139 (mk 6 0)) 109 q ≠ 3 := by
      rw [FR.A xr4.1 (by simp)]
      exact hal'
    have h150 : F (wl (wi w3 140 (-1)) 139 (mk 6 0)) 150 = ((e' : Nat) : Int) := by
      rw [FR.F xr4.1 (by simp)]
      exact he'.1
    rw [show (1 : Int32) = I 1 from rfl, show (20 : Int32) = I 20 from rfl, e_make, bnd_so, endsW_e (e := e) h9 h955 he.2, bnd_so, bnd_so, term_e, bnd_so, lit0, willE_e (e := e') (by omega) h109 h150 he'.2 hq, bnd_so]
    exact pp_end (Or.inr (Or.inl ⟨m3, _, xm3, xr4, pl3.1.2.2, rfl, rfl⟩))
  · -- room
    rw [show decide ((1 : Int32) = 0) = false from rfl, br_f, br_f, handN_e, bnd_so]
    have pl4 : PLs b2 q m3 (wl (wi w3 140 (-1)) 139 (mk 6 0)) U3 B W Y := PLs_h pl3
    have key : ∃ t', (∀ D : Option (MS × Unit), PP (fun m2 (_ : Unit) w2 (_ : Unit) => MPs q B W Y e e' m w m2 w2) (hb_Wl_post_81 N () m3 q (I ((a : Nat) : Int)) (I v3) (I v4) src t') D → PP (fun m2 (_ : Unit) w2 (_ : Unit) => MPs q B W Y e e' m w m2 w2) (br (decide (src = some q)) (bnd (hm_Fr_below N m3 q 0) (fun u43 r43 => hb_Wl_post_81 N () u43 q (I ((a : Nat) : Int)) (I v3) (I v4) src r43)) (hb_Wl_post_81 N () m3 q (I ((a : Nat) : Int)) (I v3) (I v4) src t)) D) ∧ SRs Fv P Fv' P' m3 (wl (wi w3 140 (-1)) 139 (mk 6 0)) q U3 src t' wr o (w3.2.1 139) s := by
      rcases hs with ⟨hs1, hs2⟩ | hs
      · refine ⟨t, fun D k => by rw [decide_eq_false hs1, br_f]; exact k, ?_⟩
        have ex : w3.2.1 139 = x := by
          by_cases c : o = q
          · rcases hs2 with hs2 | hs2
            · subst hs2
              have nx : ¬ isH x := by
                obtain ⟨-, sr⟩ := sr
                rcases sr with ⟨-, -, y1, y2, -⟩ | ⟨j, bS, n, ow, kd, f, n', ow', kd', f', e, -⟩
                · rw [y2]; exact y1
                · cases e
              have := (r11 (by rw [f140, c])).1
              rw [this, e139, r1.1 x nx]
            · exact absurd c hs2
          · rw [o2 (by rw [f140]; omega), e139]
        rw [ex]
        rcases hs2 with hs2 | hs2
        · subst hs2
          exact SRs_no sr
        · refine SRs_st sr (fun j ej => ?_) (fun _ i hi => xr4.2.2.1 _ (by omega)) (fun c => absurd c hs2) (fun c => ?_)
          · have jq : j ≠ q := fun c => hs1 (by rw [ej, c])
            exact xm3.2.2.2 _ (by
              have ni : ∀ k, k < 100 → pq j 2 ≠ pq q k := fun k hk c => jq (pq_e (by omega) hk c).1
              simp only [List.mem_cons, List.not_mem_nil, or_false]
              intro c
              rcases c with c | c | c | c | c | c
              · exact ni 2 (by omega) c
              · exact ni 3 (by omega) c
              · exact ni 33 (by omega) c
              · exact ni 35 (by omega) c
              · exact ni 6 (by omega) c
              · unfold pq at c; omega)
          · rcases c with c | c
            · exact absurd c hs1
            · exact absurd c hs2
      · have hs0 := hs
        obtain ⟨rfl, rfl, rfl, y1, y2, y3, ⟨f, y4⟩, y5⟩ := hs
        have eW : F m3 (pq o 26) = ((W : Nat) : Int) := pl3.2.2.1.1
        have hb : hm_Fr_below N m3 o 0 = some (m3, m3.2.2.2 (pq o 35) (W - 1)) := by
          obtain ⟨l2, d1, d2, d3⟩ := pt3.2.2.2.2.2.1
          have := below_e (N := N) (u := m3) (q := o) (k := 0) (x := 0) eW d1 (by omega) (by omega) rfl (by omega)
          rw [Nat.sub_zero] at this
          exact this
        refine ⟨m3.2.2.2 (pq o 35) (W - 1), fun D k => by rw [decide_eq_true rfl, br_t, hb, bnd_so]; exact k, ?_⟩
        have rt : RTb b2 (m3.2.2.2 (pq o 35) (W - 1)) (w3.2.1 139) := o1 f140 (pq o 35) (W - 1) (Or.inr (Or.inl ⟨rfl, by omega⟩)) (by rw [e139, j1 35 (by omega), ← y2]; exact y3)
        refine OWs_sr (b := b2) (U := U3) (W := W) (ow := ow3) (kd := kd3) (ow' := owr) (kd' := kdr) ⟨rfl, rfl, rfl, y1, rfl, rt, ⟨f, ?_⟩, ?_⟩ pl4 pt3.1.2.2 cx3.2.1 hq
        · have := (sW (W - 1) (by omega)).2.2 f s (by rw [j1 2 (by omega), j1 35 (by omega), ← y2]; exact y4)
          exact this
        · exact cx3.2.2.2.2.2.2.2.2.2.2 (by rw [FR.F r6 (by simp)]; exact f140)
    obtain ⟨t', k1, sr4⟩ := key
    refine k1 _ ?_
    have mo : ∀ m2 (z : Unit) w2 (z' : Unit), PSTs q (U3 + a + s) B W Y m3 (wl (wi w3 140 (-1)) 139 (mk 6 0)) m2 w2 → MPs q B W Y e e' m w m2 w2 := fun m2 _ w2 _ h => Or.inr (Or.inr ⟨hY, U3 + a + s, h.1, XMm.tr xm3 h.2.1, XMr.tr xr4 h.2.2⟩)
    have u4 : A (wl (wi w3 140 (-1)) 139 (mk 6 0)) 89 q = ((U3 : Nat) : Int) := pl4.1.1.2.1
    rcases hz with ⟨rfl, rfl⟩ | ⟨rfl, rfl⟩ | ⟨rfl, rfl⟩
    · rw [show decide ((2 : Int32) ≤ I ((2 : Nat) : Int)) = true from rfl, br_t]
      exact pp_mo (tail_pp (Or.inl ⟨rfl, rfl⟩) pl4 hY hq cx.1 pt3.1.2.2 sr4 (by omega) (by omega)) mo
    · rw [show decide ((2 : Int32) ≤ I ((0 : Nat) : Int)) = false from rfl, br_f]
      refine r_ck (fun _ => ?_)
      rw [tnI (n := q) rfl (by omega), I_A' u4, lt_e, show decide (I ((0 : Nat) : Int) = 0) = true from rfl, br_t]
      exact pp_mo (tail_pp (Or.inr (Or.inl ⟨rfl, rfl⟩)) pl4 hY hq cx.1 pt3.1.2.2 sr4 (by omega) (by omega)) mo
    · rw [show decide ((2 : Int32) ≤ I ((1 : Nat) : Int)) = false from rfl, br_f]
      refine r_ck (fun _ => ?_)
      rw [tnI (n := q) rfl (by omega), I_A' u4, lt_e, show decide (I ((1 : Nat) : Int) = 0) = false from rfl, br_f]
      exact pp_mo (tail_pp (Or.inr (Or.inr ⟨rfl, rfl⟩)) pl4 hY hq cx.1 pt3.1.2.2 sr4 (by omega) (by omega)) mo
/-- a message to one that has ENDED -/
theorem post_dead {v2 : Int32} {v3 v4 : Int32} (h : F m (pq q 9) = 3) : hm_Wl_post N m q v2 v3 v4 t src = some (m, ()) := by
  unfold hm_Wl_post hb_Wl_post_0 hb_Wl_post_17
  rw [I_F' h]
  rfl
theorem message_dead {v2 v3 v4 v5 v6 : Int32} (hq : q < 24) (h : A w 109 q = 3) : fm_M_message N w (I q) v2 v3 v4 v5 v6 x = some (w, ()) := by
  unfold fm_M_message fb_M_message_0 fb_M_message_21
  rw [inb_at (k := 109) (n := 24) rfl (by omega) (by omega) (by decide), ck_t, tnI (n := q) rfl (by omega), I_A' h]
  rfl
/-- post there, message here -/
theorem post_pp (hz : (a = 0 ∧ sort = 2) ∨ (a = 4 ∧ sort = 0) ∨ (a = 5 ∧ sort = 1)) (hq : q < 24) (hal : F m (pq q 9) ≠ 3) (hal' : A w 109 q ≠ 3) (pl : PLs b q m w U B W Y) (pt : PTQ m q U ow kd Fv P B W Y) (cx : CTX Fv P m) (cw : CX w q (hp w q) U ow' kd' Fv' P' W B Y) (hs : (SRs Fv P Fv' P' m w q U src t wr o x s ∧ src ≠ some q ∧ (src = none ∨ o ≠ q)) ∨ OWs b Fv P P' m q U W ow kd ow' kd' src t wr o x s) (he : F m 955 = ((e : Nat) : Int) ∧ e < 24) (he' : F w 150 = ((e' : Nat) : Int) ∧ e' < 4000) (hN : 2200000 ≤ N) :
    PP (fun m2 (_ : Unit) w2 (_ : Unit) => MPs q B W Y e e' m w m2 w2) (hm_Wl_post N m q (I ((a : Nat) : Int)) (I v3) (I v4) t src) (fm_M_message N w (I q) (I ((sort : Nat) : Int)) (I v4) (I v3) (I wr) (I o) x) := by
  have sr : SRs Fv P Fv' P' m w q U src t wr o x s := by
    rcases hs with hs | hs
    · exact hs.1
    · exact OWs_sr hs pl pt.1.2.2 cw.2.1 hq
  have hs' : (src ≠ some q ∧ (src = none ∨ o ≠ q)) ∨ OWs b Fv P P' m q U W ow kd ow' kd' src t wr o x s := by
    rcases hs with hs | hs
    · exact Or.inl hs.2
    · exact Or.inr hs
  have p7 : F m (pq q 7) = ((Y : Nat) : Int) := pl.2.2.2.1
  have p8 : A w 108 q = ((Y : Nat) : Int) := pl.2.2.2.2.1
  have hY := (PTQ_b pt).2.2.2
  have n9 : ¬ m.1 (pq q 9) = 3 := fun z => hal (by show (m.1 (pq q 9)).toInt = 3; rw [z]; rfl)
  have n9' : ¬ w.2.2.1 109 q = 3 := fun z => hal' (by show (w.2.2.1 109 q).toInt = 3; rw [z]; rfl)
  have rgw : wr = 0 ∨ wr = 1 ∨ wr = 2 := by
    obtain ⟨z, n', owx, kdx, fx, g1, g2, g3, g4, g5⟩ := SRs_z sr
    omega
  unfold hm_Wl_post hb_Wl_post_0 hb_Wl_post_17 fm_M_message fb_M_message_0 fb_M_message_21
  rw [decide_eq_false n9, br_f]
  refine r_ck (fun _ => ?_)
  rw [tnI (n := q) rfl (by omega), decide_eq_false n9', br_f]
  refine r_ck (fun _ => ?_)
  rw [I_F' p7, I_A' p8, show (30 : Int32) = I 30 from rfl, decL (by omega) (by omega) (by omega) (by omega), decE (by omega) (by omega) (by omega) (by omega)]
  by_cases c : Y < 30
  · rw [decide_eq_true (p := ((Y : Nat) : Int) < 30) (by omega), br_t, decide_eq_false (p := ((Y : Nat) : Int) = 30) (by omega), br_f]
    have core : ∀ m1 : MS, FR [] [] [] [45] m m1 → PP (fun m2 (_ : Unit) w2 (_ : Unit) => MPs q B W Y e e' m w m2 w2) (hb_Wl_post_41 N () m1 q (I ((a : Nat) : Int)) (I v3) (I v4) t src (I ((s : Nat) : Int))) (br (decide (I ((sort : Nat) : Int) = 0)) (fb_M_message_40 N () w (I q) (I ((sort : Nat) : Int)) (I v4) (I v3) (I wr) (I o) x 4) (br (decide (I ((sort : Nat) : Int) = 1)) (fb_M_message_40 N () w (I q) (I ((sort : Nat) : Int)) (I v4) (I v3) (I wr) (I o) x 5) (fb_M_message_40 N () w (I q) (I ((sort : Nat) : Int)) (I v4) (I v3) (I wr) (I o) x 0))) := fun m1 fm => by
      have c50 := p50_pp (N := N) (v3 := v3) (v4 := v4) hz hq hal hal' pl c pt cx cw sr hs' he he' hN fm
      have e40 : ∀ z : Int32, fb_M_message_40 N () w (I q) (I ((sort : Nat) : Int)) (I v4) (I v3) (I wr) (I o) x z = fb_M_message_50 N () w (I q) (I ((sort : Nat) : Int)) (I v4) (I v3) (I wr) (I o) x z (I (if wr ≤ 0 then 0 else 3)) := fun z => by
        unfold fb_M_message_40
        rw [lit0, decI (by omega) (by omega) (by omega) (by omega)]
        by_cases y : wr ≤ 0
        · rw [decide_eq_true y, br_t, if_pos y]
        · rw [decide_eq_false y, br_f, if_neg y]
          rfl
      rw [e40, e40, e40]
      rcases hz with ⟨rfl, rfl⟩ | ⟨rfl, rfl⟩ | ⟨rfl, rfl⟩
      · exact c50
      · exact c50
      · exact c50
    cases src with
    | none =>
      have es : s = 0 := by
        obtain ⟨-, sr⟩ := sr
        rcases sr with ⟨-, -, -, -, -, -, y⟩ | ⟨j, bS, n, ow, kd, f, n', ow', kd', f', e, -⟩
        · exact y
        · cases e
      subst es
      exact core m FR.rf
    | some j =>
      obtain ⟨f0, n, owj, kdj, g1, g2, g3, hs9⟩ : ∃ f0 n owj kdj, HPc (m.2.2.2 (pq j 2)) n owj kdj Fv P ∧ n ≤ 512 ∧ SZc (m.2.2.2 (pq j 2)) n owj kdj Fv P f0 t s ∧ s ≤ 1012 := by
        obtain ⟨-, sr⟩ := sr
        rcases sr with ⟨y, -⟩ | ⟨j', bS, n, ow, kd, f, n', ow', kd', f', e, ⟨g1, g2, g3⟩, ⟨g4, g5, g6⟩, g7, g8, g9⟩
        · cases y
        · injection e with e
          subst e
          have := SZ_max g1 g8
          exact ⟨f, n, ow, kd, g1, g2, g8, by omega⟩
      show PP _ (bnd (hm_Te_size N m (pq j 2) t) (fun u53 r53 => hb_Wl_post_41 N () u53 q (I ((a : Nat) : Int)) (I v3) (I v4) t (some j) r53)) _
      refine l_bnd (pk_mo (pk_ok (size_ok (N := N) (b := pq j 2) (by unfold pq; omega) rfl g2 cx.1.1 (by omega) g3 (by omega))) (fun m1 r1 h1 => ?_))
      obtain ⟨f1, rfl⟩ := h1
      exact core m1 f1
  · rw [decide_eq_false (by omega), br_f, decide_eq_true (by omega), br_t]
    exact pp_end (Or.inl ⟨by omega, rfl, rfl⟩)
end
