/-! room for cells: all that a process has goes together as before -/
set_option maxRecDepth 100000
/-- nothing of another process has changed, here -/
def XRr (q : Nat) (w w2 : MS) : Prop := FR [136, 138] [139] [89, 90, 135] [88, 91, 93, 107, 134, 137] w w2 ∧ (∀ r, r ≠ q → A w2 89 r = A w 89 r ∧ w2.2.2.1 90 r = w.2.2.1 90 r) ∧ (∀ i, ¬ (500 * q ≤ i ∧ i < 500 * q + 500) → w2.2.2.2 88 i = w.2.2.2 88 i) ∧ (∀ i, ¬ (46000 * q ≤ i ∧ i < 46000 * q + 46000) → w2.2.2.2 91 i = w.2.2.2 91 i) ∧ (∀ i, ¬ (2500 * q ≤ i ∧ i < 2500 * q + 2500) → w2.2.2.2 93 i = w.2.2.2 93 i) ∧ ∀ i, ¬ (30 * q ≤ i ∧ i < 30 * q + 30) → w2.2.2.2 107 i = w.2.2.2 107 i
/-- there -/
def XRm (q : Nat) (m m2 : MS) : Prop := FR [pq q 4, pq q 5] [] [] [pq q 2, pq q 3, pq q 33, pq q 35, pq q 6] m m2
section
variable {b b2 : Int → Nat → Nat → Prop} {N q n B W Y U : Nat} {ow kd ow' kd' : Nat → Nat} {Fv Fv' : Int64 → Int64 → Prop} {P P' : Int64 → Prop} {m w m2 w2 : MS} {k : Nat}
theorem PLs_xfr (p : PLs b q m w n B W Y) (x : XFR b b2 m w m2 w2 q B W Y W B Y) (f : XRm q m m2) (g : FR [136, 138] [139] [89, 90, 135] [88, 91, 93, 107, 134, 137] w w2) (h9 : m2.1 (pq q 5) = w2.2.2.1 90 q) : ∃ U, PLs b2 q m2 w2 U B W Y ∧ F m2 (pq q 4) = ((U : Nat) : Int) := by
  obtain ⟨⟨⟨p1, p2, p3⟩, p4, p5⟩, ⟨p6, p7, p8⟩, ⟨p9, p10, p11⟩, p12, p13, p14⟩ := p
  obtain ⟨⟨U, u1, u2, u3, u4⟩, x2, x3, x4⟩ := x
  have fm : ∀ k, k < 100 → k ≠ 4 → k ≠ 5 → F m2 (pq q k) = F m (pq q k) := fun k hk h4 h5 => FR.F f (by
    simp only [List.mem_cons, List.not_mem_nil, or_false]
    intro z
    rcases z with z | z
    · exact h4 (pq_e hk (by omega) z).2
    · exact h5 (pq_e hk (by omega) z).2)
  refine ⟨U, ⟨⟨⟨u1, u2, u3⟩, u4, h9⟩, ⟨by rw [fm 24 (by omega) (by omega) (by omega)]; exact p6, by rw [FR.A g (by decide)]; exact p7, fun i hi => ?_⟩, ⟨by rw [fm 26 (by omega) (by omega) (by omega)]; exact p9, by rw [FR.A g (by decide)]; exact p10, fun i hi => ?_⟩, by rw [fm 7 (by omega) (by omega) (by omega)]; exact p12, by rw [FR.A g (by decide)]; exact p13, fun i hi => ?_⟩, u1⟩
  · exact x2 _ _ _ _ (Or.inl ⟨rfl, hi⟩) (Or.inr (Or.inl ⟨rfl, by omega, by omega⟩)) (p8 i hi)
  · exact x2 _ _ _ _ (Or.inr (Or.inl ⟨rfl, hi⟩)) (Or.inl ⟨rfl, by omega, by omega⟩) (p11 i hi)
  · exact x2 _ _ _ _ (Or.inr (Or.inr ⟨rfl, hi⟩)) (Or.inr (Or.inr ⟨rfl, by omega, by omega⟩)) (p14 i hi)
/-- room, or none, on both sides -/
theorem want_pl (p : PTQ m q n ow kd Fv P B W Y) (cx : CTX Fv P m) (x : CX w q (hp w q) n ow' kd' Fv' P' W B Y) (pl : PLs b q m w n B W Y) (hz : RTZ b m w q B W Y W B Y) (hk : k ≤ 2000) (hN : 2200000 ≤ N) : PP (fun m2 r w2 r2 => ∃ b2 U, PLs b2 q m2 w2 U B W Y ∧ ((r = 0 ∧ r2 = 0) ∨ (r = 1 ∧ r2 = 1 ∧ U + k ≤ 500)) ∧ XRm q m m2 ∧ XRr q w w2 ∧ (∃ ow2 kd2, PTQ m2 q U ow2 kd2 Fv P B W Y) ∧ (∃ ow2 kd2, CX w2 q (hp w2 q) U ow2 kd2 Fv' P' W B Y) ∧ (F w 140 = ((q : Nat) : Int) → ∀ K i, CRt B W Y q K i → RTb b (m.2.2.2 K i) (w.2.1 139) → RTb b2 (m2.2.2.2 K i) (w2.2.1 139)) ∧ (F w 140 ≠ ((q : Nat) : Int) → w2.2.1 139 = w.2.1 139)) (hm_Pr_want N m q (I ((k : Nat) : Int))) (fm_M_wants N w (I (q : Nat)) (I ((k : Nat) : Int))) := by
  have p2 := p.1.2.1
  have hu : A w 89 q = ((n : Nat) : Int) := pl.1.1.2.1
  have bW : W ≤ 46000 := x.2.2.2.2.1.2
  have bB : B ≤ 2500 := x.2.2.2.2.2.1.2
  have bY : Y ≤ 30 := x.2.2.2.2.2.2.1.2
  have w0 := pp_pr (pp_pl (want_pp (N := N) (k := ((k : Nat) : Int)) p cx.1 cx.2.1 x hu pl.1.2.1 hz pl.1.2.2 (by omega) ⟨by omega, by omega⟩ (by omega)) (pk_ok (want_ok (N := N) (x := ((k : Nat) : Int)) p cx ⟨by omega, by omega⟩ (by omega)))) (pk_ok (wants_ok (N := N) (k := k) x hu (by omega) (by omega)))
  refine pp_mo w0 (fun m2 r w2 r2 q9 => ?_)
  obtain ⟨⟨⟨⟨b2, xf⟩, y1, y2, ⟨y3, y4⟩, y5⟩, c1, U2, ow2, kd2, c2, c3, c4, -⟩, n2, ow3, kd3, fd, R, ⟨r1, r2', r3, r4, r5, r6, r7, r8, r9, r10, r11, r12⟩, r13⟩ := q9
  obtain ⟨U, pl2, u1⟩ := PLs_xfr pl xf c4 r6 y1
  have e1 : U2 = U := by
    have := c2.1.1
    omega
  subst e1
  have e2 : n2 = U2 := by
    have := r5 q
    rw [if_pos rfl, pl2.1.1.2.1] at this
    omega
  subst e2
  refine ⟨b2, n2, pl2, ?_, c4, ⟨r6, fun s hs => ⟨?_, y2 s hs⟩, r7, fun i hi => (r8 i).2 (by omega), fun i hi => (r9 i).2 (by omega), fun i hi => (r10 i).2 (by omega)⟩, ⟨ow2, kd2, c2⟩, ⟨ow3, kd3, r3⟩, xf.2.2.1, xf.2.2.2⟩
  · rcases y4 with e | e
    · exact Or.inl ⟨e, by rw [← y3]; exact e⟩
    · refine Or.inr ⟨e, by rw [← y3]; exact e, ?_⟩
      have := c3 e
      omega
  · rw [r5 s, if_neg hs]
end
