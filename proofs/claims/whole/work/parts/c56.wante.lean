/-! room while a term is at hand here and waits uppermost there -/
set_option maxRecDepth 100000
section
variable {b b2 : Int → Nat → Nat → Prop} {N q n B W Y U e k : Nat} {ow kd ow' kd' : Nat → Nat} {Fv Fv' : Int64 → Int64 → Prop} {P P' : Int64 → Prop} {m w m2 w2 : MS} {x t : Int64}
theorem RTZ_e (pl : PLs b q (wi m (pq q 26) ((W : Nat) : Int)) w n B W Y) (hq : q < 24) (hx : ∀ i, W ≤ i → i < W + e → RTb b (m.2.2.2 (pq q 35) i) x) (he : 0 < e) : RTZ b m (wl (wi w 140 ((q : Nat) : Int)) 139 x) q B (W + e) Y W B Y := by
  have e1 : F (wl (wi w 140 ((q : Nat) : Int)) 139 x) 140 = ((q : Nat) : Int) := by show F (wi w 140 ((q : Nat) : Int)) 140 = _; rw [wi_sm (by omega) (by omega)]
  obtain ⟨-, ⟨-, -, p1⟩, ⟨-, -, p2⟩, -, -, p3⟩ := pl
  refine ⟨fun K i c _ => ?_, fun K i c _ => ?_, fun _ z => ⟨pq q 35, W, Or.inr (Or.inl ⟨rfl, by omega⟩), hx W (Nat.le_refl _) (by omega)⟩⟩
  · rcases c with ⟨rfl, c⟩ | ⟨rfl, c⟩ | ⟨rfl, c⟩
    · exact Or.inl ⟨93, 2500 * q + i, Or.inr (Or.inl ⟨rfl, by omega, by omega⟩), p1 i c⟩
    · by_cases ci : i < W
      · exact Or.inl ⟨91, 46000 * q + i, Or.inl ⟨rfl, by omega, by omega⟩, p2 i ci⟩
      · exact Or.inr ⟨e1, hx i (by omega) c⟩
    · exact Or.inl ⟨107, 30 * q + i, Or.inr (Or.inr ⟨rfl, by omega, by omega⟩), p3 i c⟩
  · rcases c with ⟨rfl, c1, c2⟩ | ⟨rfl, c1, c2⟩ | ⟨rfl, c1, c2⟩
    · have := p2 (i - 46000 * q) (by omega)
      rw [show 46000 * q + (i - 46000 * q) = i by omega] at this
      exact ⟨pq q 35, i - 46000 * q, Or.inr (Or.inl ⟨rfl, by omega⟩), this⟩
    · have := p1 (i - 2500 * q) (by omega)
      rw [show 2500 * q + (i - 2500 * q) = i by omega] at this
      exact ⟨pq q 33, i - 2500 * q, Or.inl ⟨rfl, by omega⟩, this⟩
    · have := p3 (i - 30 * q) (by omega)
      rw [show 30 * q + (i - 30 * q) = i by omega] at this
      exact ⟨pq q 6, i - 30 * q, Or.inr (Or.inr ⟨rfl, by omega⟩), this⟩
/-- room, or none -/
theorem want_pe (p : PTQ m q n ow kd Fv P B (W + e) Y) (cx : CTX Fv P m) (xc : CX (wl (wi w 140 ((q : Nat) : Int)) 139 x) q (hp (wl (wi w 140 ((q : Nat) : Int)) 139 x) q) n ow' kd' Fv' P' W B Y) (pl : PLs b q (wi m (pq q 26) ((W : Nat) : Int)) w n B W Y) (hx : ∀ i, W ≤ i → i < W + e → RTb b (m.2.2.2 (pq q 35) i) x) (he : 0 < e) (he2 : e ≤ 100000) (hk : k ≤ 2000) (hN : 2200000 ≤ N) :
    PP (fun m2 r w2 r2 => ∃ b2 U, PLs b2 q (wi m2 (pq q 26) ((W : Nat) : Int)) w2 U B W Y ∧ (∀ i, W ≤ i → i < W + e → RTb b2 (m2.2.2.2 (pq q 35) i) (w2.2.1 139)) ∧ ((r = 0 ∧ r2 = 0) ∨ (r = 1 ∧ r2 = 1 ∧ U + k ≤ 500)) ∧ XRm q m m2 ∧ XRr q (wl (wi w 140 ((q : Nat) : Int)) 139 x) w2 ∧ (∃ ow2 kd2, PTQ m2 q U ow2 kd2 Fv P B (W + e) Y) ∧ (∃ ow2 kd2, CX w2 q (hp w2 q) U ow2 kd2 Fv' P' W B Y)) (hm_Pr_want N m q (I ((k : Nat) : Int))) (fm_M_wants N (wl (wi w 140 ((q : Nat) : Int)) 139 x) (I (q : Nat)) (I ((k : Nat) : Int))) := by
  have hq : q < 24 := xc.2.2.2.1
  have hz := RTZ_e pl hq hx he
  have e1 : F (wl (wi w 140 ((q : Nat) : Int)) 139 x) 140 = ((q : Nat) : Int) := by show F (wi w 140 ((q : Nat) : Int)) 140 = _; rw [wi_sm (by omega) (by omega)]
  have p2 := p.1.2.1
  obtain ⟨⟨⟨p1, pu, p3⟩, p4, p5⟩, ⟨p6, p7, p8⟩, ⟨p9, p10, p11⟩, p12, p13, p14⟩ := pl
  have hm : ∀ k, k < 100 → k ≠ 26 → (wi m (pq q 26) ((W : Nat) : Int)).1 (pq q k) = m.1 (pq q k) := fun k _ h => if_neg (pq_inj h)
  have hmF : ∀ k, k < 100 → k ≠ 26 → F (wi m (pq q 26) ((W : Nat) : Int)) (pq q k) = F m (pq q k) := fun k h1 h2 => congrArg Int32.toInt (hm k h1 h2)
  have bW : W ≤ 46000 := xc.2.2.2.2.1.2
  have bB : B ≤ 2500 := xc.2.2.2.2.2.1.2
  have bY : Y ≤ 30 := xc.2.2.2.2.2.2.1.2
  have h90 : m.1 (pq q 5) = (wl (wi w 140 ((q : Nat) : Int)) 139 x).2.2.1 90 q := by rw [← hm 5 (by omega) (by omega)]; exact p5
  have w0 := pp_pr (pp_pl (want_pp (N := N) (k := ((k : Nat) : Int)) p cx.1 cx.2.1 xc pu p4 hz h90 (by omega) ⟨by omega, by omega⟩ (by omega)) (pk_ok (want_ok (N := N) (x := ((k : Nat) : Int)) p cx ⟨by omega, by omega⟩ (by omega)))) (pk_ok (wants_ok (N := N) (k := k) xc pu (by omega) (by omega)))
  refine pp_mo w0 (fun m2 r w2 r2 q9 => ?_)
  obtain ⟨⟨⟨⟨b2, ⟨U, u1, u2, u3, u4⟩, x2, x3, x4⟩, y1, y2, ⟨y3, y4⟩, y5⟩, c1, U2, ow2, kd2, c2, c3, c4, -⟩, n2, ow3, kd3, fd, R, ⟨r1, r2', r3, r4, r5, r6, r7, r8, r9, r10, r11, r12⟩, r13⟩ := q9
  have e2 : U2 = U := by
    have := c2.1.1
    omega
  subst e2
  have e3 : n2 = U2 := by
    have := r5 q
    rw [if_pos rfl, u2] at this
    omega
  subst e3
  have f : XRm q m m2 := c4
  have i2 : ∀ k, k < 100 → k ≠ 4 → k ≠ 5 → m2.1 (pq q k) = m.1 (pq q k) := fun k hk h4 h5 => f.1 _ (by
    simp only [List.mem_cons, List.not_mem_nil, or_false]
    intro z
    rcases z with z | z
    · exact h4 (pq_e hk (by omega) z).2
    · exact h5 (pq_e hk (by omega) z).2)
  have gm : ∀ k, k < 100 → k ≠ 4 → k ≠ 5 → k ≠ 26 → F (wi m2 (pq q 26) ((W : Nat) : Int)) (pq q k) = F (wi m (pq q 26) ((W : Nat) : Int)) (pq q k) := fun k hk h4 h5 h6 => by
    show ((wi m2 (pq q 26) ((W : Nat) : Int)).1 (pq q k)).toInt = ((wi m (pq q 26) ((W : Nat) : Int)).1 (pq q k)).toInt
    rw [show (wi m2 (pq q 26) ((W : Nat) : Int)).1 (pq q k) = m2.1 (pq q k) from if_neg (pq_inj h6), hm k hk h6, i2 k hk h4 h5]
  have ga : ∀ K, K ≠ 89 → K ≠ 90 → K ≠ 135 → A w2 K q = A w K q := fun K h1 h2 h3 => by
    rw [FR.A r6 (by simp; omega)]
    rfl
  refine ⟨b2, n2, ⟨⟨⟨?_, u2, u3⟩, u4, ?_⟩, ⟨by rw [gm 24 (by omega) (by omega) (by omega) (by omega)]; exact p6, by rw [ga 94 (by omega) (by omega) (by omega)]; exact p7, fun i hi => ?_⟩, ⟨by rw [wi_sm (by omega) (by omega)], by rw [ga 92 (by omega) (by omega) (by omega)]; exact p10, fun i hi => ?_⟩, by rw [gm 7 (by omega) (by omega) (by omega) (by omega)]; exact p12, by rw [ga 108 (by omega) (by omega) (by omega)]; exact p13, fun i hi => ?_⟩, fun i h1 h2 => ?_, ?_, f, ⟨r6, fun s hs => ⟨?_, y2 s hs⟩, r7, fun i hi => (r8 i).2 (by omega), fun i hi => (r9 i).2 (by omega), fun i hi => (r10 i).2 (by omega)⟩, ⟨ow2, kd2, c2⟩, ⟨ow3, kd3, r3⟩⟩
  · rw [wi_ne (pq_inj (by omega))]; exact u1
  · rw [show (wi m2 (pq q 26) ((W : Nat) : Int)).1 (pq q 5) = m2.1 (pq q 5) from if_neg (pq_inj (by omega))]; exact y1
  · exact x2 _ _ _ _ (Or.inl ⟨rfl, hi⟩) (Or.inr (Or.inl ⟨rfl, by omega, by omega⟩)) (p8 i hi)
  · exact x2 _ _ _ _ (Or.inr (Or.inl ⟨rfl, by omega⟩)) (Or.inl ⟨rfl, by omega, by omega⟩) (p11 i hi)
  · exact x2 _ _ _ _ (Or.inr (Or.inr ⟨rfl, hi⟩)) (Or.inr (Or.inr ⟨rfl, by omega, by omega⟩)) (p14 i hi)
  · exact x3 e1 (pq q 35) i (Or.inr (Or.inl ⟨rfl, h2⟩)) (hx i h1 h2)
  · rcases y4 with z | z
    · exact Or.inl ⟨z, by rw [← y3]; exact z⟩
    · refine Or.inr ⟨z, by rw [← y3]; exact z, ?_⟩
      have := c3 z
      omega
  · rw [r5 s, if_neg hs]
end
