/-! no room for what is greater than all cells -/
set_option maxRecDepth 100000
section
variable {b b2 : Int → Nat → Nat → Prop} {h' : Nat → Int64} {n N q B W Y oM bM xM : Nat} {ow kd ow' kd' : Nat → Nat} {Fv Fv' : Int64 → Int64 → Prop} {P P' : Int64 → Prop} {m w m2 w2 : MS} {k k' : Int} {c c' : Nat}
theorem want_bb (p : PTQ m q n ow kd Fv P B W Y) (hF : FVc Fv) (hP : ∀ t, P t → PT m t) (x : CX w q h' n ow' kd' Fv' P' oM bM xM) (hu : A w 89 q = ((n : Nat) : Int)) (s : ISb b (m.2.2.2 (pq q 2)) n h' n) (z : RTZ b m w q B W Y oM bM xM) (h90 : m.1 (pq q 5) = w.2.2.1 90 q) (k0 : 500 < k) (k1 : 500 < k') (hk : k ≤ 100000) (hk' : k' ≤ 100000) (hN : 60000 + B + W + Y ≤ N) : PP (fun m2 r w2 r2 => (∃ b2, XFR b b2 m w m2 w2 q B W Y oM bM xM) ∧ m2.1 (pq q 5) = w2.2.2.1 90 q ∧ (∀ p, p ≠ q → w2.2.2.1 90 p = w.2.2.1 90 p) ∧ r = 0 ∧ r2 = 0) (hm_Pr_want N m q (I k)) (fm_M_wants N w (I (q : Nat)) (I k')) := by
  have x4 := x.2.2.2.1
  have p1 := p.1.1
  have p2 := p.1.2.1
  unfold hm_Pr_want hb_Pr_want_0 fm_M_wants fb_M_wants_0
  refine r_ck (fun _ => ?_)
  rw [tnI (n := q) rfl (by omega), I_F' p1, I_A' hu, lit500, show I ((n : Nat) : Int) + I k = I (((n : Nat) : Int) + k) from I_add, show I ((n : Nat) : Int) + I k' = I (((n : Nat) : Int) + k') from I_add, decI (x := ((n : Nat) : Int) + k) (by omega) (by omega) (by decide) (by decide), decI (x := ((n : Nat) : Int) + k') (by omega) (by omega) (by decide) (by decide), decide_eq_false (p := ((n : Nat) : Int) + k ≤ 500) (by omega), br_f, decide_eq_false (p := ((n : Nat) : Int) + k' ≤ 500) (by omega), br_f]
  refine pp_bb (pp_mo (clear_pp p hF hP x s z hN) (fun m2 r w2 r2 q9 => ?_))
  obtain ⟨⟨b2, xf⟩, y1, y2⟩ := q9
  obtain ⟨U2, f1, f2, f3, -⟩ := xf.1
  unfold hb_Pr_want_16 hb_Pr_want_33 fb_M_wants_19 fb_M_wants_38
  refine r_ck (fun _ => ?_)
  rw [tnI (n := q) rfl (by omega), I_F' f1, I_A' f2, lit500, show I ((U2 : Nat) : Int) + I k = I (((U2 : Nat) : Int) + k) from I_add, show I ((U2 : Nat) : Int) + I k' = I (((U2 : Nat) : Int) + k') from I_add, decL (y := ((U2 : Nat) : Int) + k) (by decide) (by decide) (by omega) (by omega), decL (y := ((U2 : Nat) : Int) + k') (by decide) (by decide) (by omega) (by omega), decide_eq_true (p := (500 : Int) < ((U2 : Nat) : Int) + k) (by omega), br_t, decide_eq_true (p := (500 : Int) < ((U2 : Nat) : Int) + k') (by omega), br_t]
  refine l_ck (fun _ => r_ck (fun _ => pp_end ⟨⟨b2, xf⟩, ?_, fun p hp => ?_, rfl, rfl⟩))
  · rw [y1, y2, h90]
    exact (if_pos rfl).symm
  · rw [y2]
    exact if_neg hp
/-- room, or none, on both sides; c there, c' here: the same, or too much both -/
theorem want_pd (p : PTQ m q n ow kd Fv P B W Y) (cx : CTX Fv P m) (x : CX w q (hp w q) n ow' kd' Fv' P' W B Y) (pl : PLs b q m w n B W Y) (hz : RTZ b m w q B W Y W B Y) (hc : c ≤ 2000 ∧ c' ≤ 2000) (he : c = c' ∨ (500 < c ∧ 500 < c')) (hN : 2200000 ≤ N) : PP (fun m2 r w2 r2 => ∃ b2 U, PLs b2 q m2 w2 U B W Y ∧ ((r = 0 ∧ r2 = 0) ∨ (r = 1 ∧ r2 = 1 ∧ U + c ≤ 500)) ∧ XRm q m m2 ∧ XRr q w w2 ∧ (∃ ow2 kd2, PTQ m2 q U ow2 kd2 Fv P B W Y) ∧ (∃ ow2 kd2, CX w2 q (hp w2 q) U ow2 kd2 Fv' P' W B Y) ∧ (F w 140 = ((q : Nat) : Int) → ∀ K i, CRt B W Y q K i → RTb b (m.2.2.2 K i) (w.2.1 139) → RTb b2 (m2.2.2.2 K i) (w2.2.1 139)) ∧ (F w 140 ≠ ((q : Nat) : Int) → w2.2.1 139 = w.2.1 139)) (hm_Pr_want N m q (I ((c : Nat) : Int))) (fm_M_wants N w (I (q : Nat)) (I ((c' : Nat) : Int))) := by
  rcases he with rfl | ⟨c1, c2⟩
  · exact want_pl p cx x pl hz hc.1 hN
  have p2 := p.1.2.1
  have hu : A w 89 q = ((n : Nat) : Int) := pl.1.1.2.1
  have bW : W ≤ 46000 := x.2.2.2.2.1.2
  have bB : B ≤ 2500 := x.2.2.2.2.2.1.2
  have bY : Y ≤ 30 := x.2.2.2.2.2.2.1.2
  have w0 := pp_pr (pp_pl (want_bb (N := N) (k := ((c : Nat) : Int)) (k' := ((c' : Nat) : Int)) p cx.1 cx.2.1 x hu pl.1.2.1 hz pl.1.2.2 (by omega) (by omega) (by omega) (by omega) (by omega)) (pk_ok (want_ok (N := N) (x := ((c : Nat) : Int)) p cx ⟨by omega, by omega⟩ (by omega)))) (pk_ok (wants_ok (N := N) (k := c') x hu (by omega) (by omega)))
  refine pp_mo w0 (fun m2 r w2 r2 q9 => ?_)
  obtain ⟨⟨⟨⟨b2, xf⟩, y1, y2, y3, y4⟩, d1, U2, ow2, kd2, d2, d3, d4, -⟩, n2, ow3, kd3, fd, R, ⟨r1, r2', r3, r4, r5, r6, r7, r8, r9, r10, r11, r12⟩, r13⟩ := q9
  obtain ⟨U, pl2, u1⟩ := PLs_xfr pl xf d4 r6 y1
  have e1 : U2 = U := by
    have := d2.1.1
    omega
  subst e1
  have e2 : n2 = U2 := by
    have := r5 q
    rw [if_pos rfl, pl2.1.1.2.1] at this
    omega
  subst e2
  refine ⟨b2, n2, pl2, Or.inl ⟨y3, y4⟩, d4, ⟨r6, fun s hs => ⟨?_, y2 s hs⟩, r7, fun i hi => (r8 i).2 (by omega), fun i hi => (r9 i).2 (by omega), fun i hi => (r10 i).2 (by omega)⟩, ⟨ow2, kd2, d2⟩, ⟨ow3, kd3, r3⟩, xf.2.2.1, xf.2.2.2⟩
  rw [r5 s, if_neg hs]
end
