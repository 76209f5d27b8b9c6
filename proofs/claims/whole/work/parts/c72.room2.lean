/-! room for cells; what is made there -/
set_option maxRecDepth 100000
section
variable {b b2 b3 : Int → Nat → Nat → Prop} {N p n B W Y U k e ee : Nat} {ow kd ow' kd' : Nat → Nat} {Fv Fv' : Int64 → Int64 → Prop} {P P' : Int64 → Prop} {m w m2 w2 m3 w3 : MS} {x t : Int64}
theorem endsBy_e (h9 : F m (pq p 9) ≠ 3) (hee : F m 955 = ((ee : Nat) : Int) ∧ ee < 24) {v : Int} : hm_Wl_endsBy N m p (I v) = some (enS m p (mk 1 v) p ee, ()) := by
  unfold hm_Wl_endsBy hb_Wl_endsBy_0
  rw [show (1 : Int32) = I 1 from rfl, e_make, bnd_so, endsW_e h9 hee.1 hee.2, bnd_so]
theorem XRm_F (a : XRm p m m2) {d : Nat} (h4 : d ≠ 4) (h5 : d ≠ 5) : m2.1 (pq p d) = m.1 (pq p d) := a.1 _ (by
  simp only [List.mem_cons, List.not_mem_nil, or_false]
  intro c
  rcases c with c | c
  · exact pq_inj h4 c
  · exact pq_inj h5 c)
theorem XRm_G (a : XRm p m m2) {d : Nat} (h : d < 2000) : m2.1 d = m.1 d := a.1 _ (by
  simp only [List.mem_cons, List.not_mem_nil, or_false]
  intro c
  rcases c with c | c
  · exact pq_n h c
  · exact pq_n h c)
/-- room for so many cells, or it ENDS: there -/
theorem room_e (q : MS → Int32 → Prop) (hw : PK (fun m2 r => (r = 0 ∨ r = 1) ∧ XRm p m m2 ∧ q m2 r) (hm_Pr_want N m p (I ((k : Nat) : Int)))) (h9 : F m (pq p 9) ≠ 3) (hee : F m 955 = ((ee : Nat) : Int) ∧ ee < 24) : PK (fun m3 r => ∃ m2, XRm p m m2 ∧ q m2 r ∧ ((r = 1 ∧ m3 = m2) ∨ (r = 0 ∧ m3 = enS m2 p (mk 1 20) p ee))) (hm_Ma_room N m p (I ((k : Nat) : Int))) := by
  unfold hm_Ma_room hb_Ma_room_0
  refine pk_bnd (pk_mo hw (fun m2 r h => ?_))
  obtain ⟨h1, h2, h3⟩ := h
  rcases h1 with rfl | rfl
  · rw [show decide ((0 : Int32) = 0) = true from rfl, br_t]
    have e9 : F m2 (pq p 9) ≠ 3 := by
      show (m2.1 (pq p 9)).toInt ≠ 3
      rw [XRm_F h2 (by omega) (by omega)]
      exact h9
    have e55 : F m2 955 = ((ee : Nat) : Int) := by
      show (m2.1 955).toInt = _
      rw [XRm_G h2 (by omega)]
      exact hee.1
    rw [show (20 : Int32) = I 20 from rfl, endsBy_e e9 ⟨e55, hee.2⟩, bnd_so]
    exact pk_ck (fun _ => pk_some ⟨m2, h2, h3, Or.inr ⟨rfl, rfl⟩⟩)
  · rw [show decide ((1 : Int32) = 0) = false from rfl, br_f]
    exact pk_ck (fun _ => pk_some ⟨m2, h2, h3, Or.inl ⟨rfl, rfl⟩⟩)
/-- what a clearing leaves as it is: there -/
theorem want_nh (q : PTQ m p n ow kd Fv P B W Y) (cx : CTX Fv P m) {v : Int} (hv : 0 ≤ v ∧ v ≤ 100000) (hN : 2200000 ≤ N) (hW : W ≤ 1000000 ∧ B ≤ 100000 ∧ Y ≤ 30) : PK (fun m2 _ => ∀ i, i < W → ¬ isH (m.2.2.2 (pq p 35) i) → m2.2.2.2 (pq p 35) i = m.2.2.2 (pq p 35) i) (hm_Pr_want N m p (I v)) := by
  unfold hm_Pr_want hb_Pr_want_0
  have cl := pk_ok (clearHeap_x (N := N) q cx.1 cx.2.1 (by omega))
  have fin : ∀ m2 : MS, (∀ i, i < W → ¬ isH (m.2.2.2 (pq p 35) i) → m2.2.2.2 (pq p 35) i = m.2.2.2 (pq p 35) i) → PK (fun m2 (_ : Int32) => ∀ i, i < W → ¬ isH (m.2.2.2 (pq p 35) i) → m2.2.2.2 (pq p 35) i = m.2.2.2 (pq p 35) i) (hb_Pr_want_16 N () m2 p (I v)) := fun m2 h => by
    unfold hb_Pr_want_16 hb_Pr_want_33
    refine pk_br (fun _ => ?_) (fun _ => ?_)
    · exact pk_ck (fun _ => pk_some h)
    · exact pk_ck (fun _ => pk_some h)
  refine pk_br (fun _ => ?_) (fun _ => ?_)
  · exact fin m (fun _ _ _ => rfl)
  · refine pk_bnd (pk_mo cl (fun m2 _ h => fin m2 (fun i hi z => ?_)))
    obtain ⟨U, src, bs, -, -, -, -, hW2, -⟩ := h
    rcases hW2 i hi with c | c
    · exact c.2
    · exact absurd c.1 z
/-- room for so many cells, or it ENDS -/
theorem room_pp (q : PTQ m p n ow kd Fv P B W Y) (cx : CTX Fv P m) (xc : CX w p (hp w p) n ow' kd' Fv' P' W B Y) (pl : PLs b p m w n B W Y) (h140 : F w 140 = -1) (hk : k ≤ 2000) (h9 : F m (pq p 9) ≠ 3) (hee : F m 955 = ((ee : Nat) : Int) ∧ ee < 24) (hN : 2200000 ≤ N) :
    PP (fun m2 r w2 r2 => (r = 1 ∧ r2 = 1 ∧ XRm p m m2 ∧ XRr p w w2 ∧ ∃ b2 U, PLs b2 p m2 w2 U B W Y ∧ U + k ≤ 500 ∧ (∃ ow2 kd2, PTQ m2 p U ow2 kd2 Fv P B W Y) ∧ (∃ ow2 kd2, CX w2 p (hp w2 p) U ow2 kd2 Fv' P' W B Y)) ∨ (r = 0 ∧ r2 = 0 ∧ ∃ m4, XRm p m m4 ∧ XRr p w w2 ∧ m2 = enS m4 p (mk 1 20) p ee ∧ m4.1 (pq p 5) = w2.2.2.1 90 p)) (hm_Ma_room N m p (I ((k : Nat) : Int))) (fm_M_wants N w (I ((p : Nat) : Int)) (I ((k : Nat) : Int))) := by
  have wp := want_pl (k := k) q cx xc pl (PLs_z pl (by rw [h140]; omega)) hk hN
  intro m2 r w2 r2 e1 e2
  have re := room_e (N := N) (p := p) (k := k) (m := m) (ee := ee) (fun m4 r4 => hm_Pr_want N m p (I ((k : Nat) : Int)) = some (m4, r4)) (fun m4 r4 hz => by
    obtain ⟨b2, U, a1, a3, a4, -⟩ := wp m4 r4 w2 r2 hz e2
    refine ⟨?_, a4, hz⟩
    rcases a3 with ⟨c, -⟩ | ⟨c, -⟩
    · exact Or.inl c
    · exact Or.inr c) h9 hee m2 r e1
  obtain ⟨m4, x1, hz, c⟩ := re
  obtain ⟨b2, U, a1, a3, a4, a5, a6, a7, -⟩ := wp m4 r w2 r2 hz e2
  rcases c with ⟨rfl, rfl⟩ | ⟨rfl, rfl⟩
  · rcases a3 with ⟨c1, -⟩ | ⟨-, c2, c3⟩
    · exact absurd c1 (by decide)
    · exact Or.inl ⟨rfl, c2, a4, a5, b2, U, a1, c3, a6, a7⟩
  · rcases a3 with ⟨-, c2⟩ | ⟨c1, -⟩
    · exact Or.inr ⟨rfl, c2, m4, a4, a5, rfl, a1.1.2.2⟩
    · exact absurd c1 (by decide)
/-- the same, where terms without cells wait there in addition -/
theorem room_pz (q : PTQ m p n ow kd Fv P B (W + e) Y) (cx : CTX Fv P m) (xc : CX w p (hp w p) n ow' kd' Fv' P' W B Y) (pl : PLs b p (wi m (pq p 26) ((W : Nat) : Int)) w n B W Y) (hx : ∀ i, W ≤ i → i < W + e → ¬ isH (m.2.2.2 (pq p 35) i)) (h140 : F w 140 = -1) (hk : k ≤ 2000) (hW : W + e ≤ 100000) (h9 : F m (pq p 9) ≠ 3) (hee : F m 955 = ((ee : Nat) : Int) ∧ ee < 24) (hN : 2200000 ≤ N) :
    PP (fun m2 r w2 r2 => (r = 1 ∧ r2 = 1 ∧ XRm p m m2 ∧ XRr p w w2 ∧ (∀ i, W ≤ i → i < W + e → m2.2.2.2 (pq p 35) i = m.2.2.2 (pq p 35) i) ∧ ∃ b2 U, PLs b2 p (wi m2 (pq p 26) ((W : Nat) : Int)) w2 U B W Y ∧ U + k ≤ 500 ∧ (∃ ow2 kd2, PTQ m2 p U ow2 kd2 Fv P B (W + e) Y) ∧ (∃ ow2 kd2, CX w2 p (hp w2 p) U ow2 kd2 Fv' P' W B Y)) ∨ (r = 0 ∧ r2 = 0 ∧ ∃ m4, XRm p m m4 ∧ XRr p w w2 ∧ m2 = enS m4 p (mk 1 20) p ee ∧ m4.1 (pq p 5) = w2.2.2.1 90 p)) (hm_Ma_room N m p (I ((k : Nat) : Int))) (fm_M_wants N w (I ((p : Nat) : Int)) (I ((k : Nat) : Int))) := by
  have p2 := q.1.2.1
  have hu : A w 89 p = ((n : Nat) : Int) := pl.1.1.2.1
  have bW : W ≤ 46000 := xc.2.2.2.2.1.2
  have bB : B ≤ 2500 := xc.2.2.2.2.2.1.2
  have bY : Y ≤ 30 := xc.2.2.2.2.2.2.1.2
  have e0 : (wi m (pq p 26) ((W : Nat) : Int)).1 (pq p 5) = m.1 (pq p 5) := wi_1 (pq_inj (by omega))
  have hz : RTZ b m w p B (W + e) Y W B Y := by
    obtain ⟨z1, z2, z3⟩ := PLs_z pl (show F w 140 ≠ ((p : Nat) : Int) by rw [h140]; omega)
    refine ⟨fun K i c z => ?_, fun K i c z => ?_, fun c => absurd c (by rw [h140]; omega)⟩
    · rcases c with c | ⟨rfl, c⟩ | c
      · exact z1 K i (Or.inl c) z
      · by_cases ci : i < W
        · exact z1 _ i (Or.inr (Or.inl ⟨rfl, ci⟩)) z
        · exact absurd z (hx i (by omega) c)
      · exact z1 K i (Or.inr (Or.inr c)) z
    · obtain ⟨K2, i2, c2, r⟩ := z2 K i c z
      refine ⟨K2, i2, ?_, r⟩
      rcases c2 with c2 | ⟨c2, c3⟩ | c2
      · exact Or.inl c2
      · exact Or.inr (Or.inl ⟨c2, by omega⟩)
      · exact Or.inr (Or.inr c2)
  have w0 := pp_pl (pp_pr (pp_pl (want_pp (N := N) (k := ((k : Nat) : Int)) q cx.1 cx.2.1 xc hu pl.1.2.1 hz (e0.symm.trans pl.1.2.2) (by omega) ⟨by omega, by omega⟩ (by omega)) (pk_ok (want_ok (N := N) (x := ((k : Nat) : Int)) q cx ⟨by omega, by omega⟩ (by omega)))) (pk_ok (wants_ok (N := N) (k := k) xc hu (by omega) (by omega)))) (want_nh (N := N) (v := ((k : Nat) : Int)) q cx ⟨by omega, by omega⟩ hN ⟨by omega, by omega, bY⟩)
  have wp : PP (fun m2 r w2 r2 => ∃ b2 U, PLs b2 p (wi m2 (pq p 26) ((W : Nat) : Int)) w2 U B W Y ∧ ((r = 0 ∧ r2 = 0) ∨ (r = 1 ∧ r2 = 1 ∧ U + k ≤ 500)) ∧ XRm p m m2 ∧ XRr p w w2 ∧ (∃ ow2 kd2, PTQ m2 p U ow2 kd2 Fv P B (W + e) Y) ∧ (∃ ow2 kd2, CX w2 p (hp w2 p) U ow2 kd2 Fv' P' W B Y) ∧ (∀ i, W ≤ i → i < W + e → m2.2.2.2 (pq p 35) i = m.2.2.2 (pq p 35) i)) (hm_Pr_want N m p (I ((k : Nat) : Int))) (fm_M_wants N w (I ((p : Nat) : Int)) (I ((k : Nat) : Int))) := by
    refine pp_mo w0 (fun m2 r w2 r2 q9 => ?_)
    obtain ⟨⟨⟨⟨⟨b2, xf⟩, y1, y2, ⟨y3, y4⟩, y5⟩, c1, U2, ow2, kd2, c2, c3, c4, -⟩, n2, ow3, kd3, fd, R, ⟨r1, r2', r3, r4, r5, r6, r7, r8, r9, r10, r11, r12⟩, r13⟩, nh⟩ := q9
    have xf' : XFR b b2 (wi m (pq p 26) ((W : Nat) : Int)) w (wi m2 (pq p 26) ((W : Nat) : Int)) w2 p B W Y W B Y := by
      obtain ⟨⟨U, u1, u2, u3, u4⟩, x2, x3, x4⟩ := xf
      refine ⟨⟨U, by rw [wi_ne (pq_inj (by omega))]; exact u1, u2, u3, u4⟩, fun K i K2 i2 k1 k2 r => x2 K i K2 i2 ?_ k2 r, fun c => absurd c (by rw [h140]; omega), x4⟩
      rcases k1 with k1 | ⟨k1, k3⟩ | k1
      · exact Or.inl k1
      · exact Or.inr (Or.inl ⟨k1, by omega⟩)
      · exact Or.inr (Or.inr k1)
    have xrm : XRm p (wi m (pq p 26) ((W : Nat) : Int)) (wi m2 (pq p 26) ((W : Nat) : Int)) := by
      refine ⟨fun d hd => ?_, c4.2.1, c4.2.2.1, c4.2.2.2⟩
      by_cases c : d = pq p 26
      · subst c
        show (if _ = _ then _ else _) = (if _ = _ then _ else _)
        rw [if_pos rfl, if_pos rfl]
      · rw [wi_1 c, wi_1 c]
        exact c4.1 d hd
    obtain ⟨U, pl2, u1⟩ := PLs_xfr pl xf' xrm r6 (by rw [wi_1 (pq_inj (by omega))]; exact y1)
    rw [wi_ne (pq_inj (by omega))] at u1
    have e1 : U2 = U := by
      have := c2.1.1
      omega
    subst e1
    have e2 : n2 = U2 := by
      have := r5 p
      rw [if_pos rfl, pl2.1.1.2.1] at this
      omega
    subst e2
    refine ⟨b2, n2, pl2, ?_, c4, ⟨r6, fun s hs => ⟨?_, y2 s hs⟩, r7, fun i hi => (r8 i).2 (by omega), fun i hi => (r9 i).2 (by omega), fun i hi => (r10 i).2 (by omega)⟩, ⟨ow2, kd2, c2⟩, ⟨ow3, kd3, r3⟩, fun i h1 h2 => nh i h2 (hx i h1 h2)⟩
    · rcases y4 with e | e
      · exact Or.inl ⟨e, by rw [← y3]; exact e⟩
      · refine Or.inr ⟨e, by rw [← y3]; exact e, ?_⟩
        have := c3 e
        omega
    · rw [r5 s, if_neg hs]
  intro m2 r w2 r2 e1 e2
  have re := room_e (N := N) (p := p) (k := k) (m := m) (ee := ee) (fun m4 r4 => hm_Pr_want N m p (I ((k : Nat) : Int)) = some (m4, r4)) (fun m4 r4 hz => by
    obtain ⟨b2, U, a1, a3, a4, -⟩ := wp m4 r4 w2 r2 hz e2
    refine ⟨?_, a4, hz⟩
    rcases a3 with ⟨c, -⟩ | ⟨c, -⟩
    · exact Or.inl c
    · exact Or.inr c) h9 hee m2 r e1
  obtain ⟨m4, x1, hz, c⟩ := re
  obtain ⟨b2, U, a1, a3, a4, a5, a6, a7, a8⟩ := wp m4 r w2 r2 hz e2
  rcases c with ⟨rfl, rfl⟩ | ⟨rfl, rfl⟩
  · rcases a3 with ⟨c1, -⟩ | ⟨-, c2, c3⟩
    · exact absurd c1 (by decide)
    · exact Or.inl ⟨rfl, c2, a4, a5, a8, b2, U, a1, c3, a6, a7⟩
  · rcases a3 with ⟨-, c2⟩ | ⟨c1, -⟩
    · have h5 := a1.1.2.2
      rw [wi_1 (pq_inj (by omega))] at h5
      exact Or.inr ⟨rfl, c2, m4, a4, a5, rfl, h5⟩
    · exact absurd c1 (by decide)
/-- cells are made, nothing else changes -/
theorem PLs_cells (pl : PLs b p m w U B W Y) (f : FR [pq p 4] [] [] [pq p 2] m m3) (g : FR [] [] [89] [88] w w3) (e4 : F m3 (pq p 4) = ((U + k : Nat) : Int)) (e89 : A w3 89 p = ((U + k : Nat) : Int)) (hU : U + k ≤ 500) (bb : ∀ k a c, b k a c → b3 k a c) (is : ISb b3 (m3.2.2.2 (pq p 2)) (U + k) (hp w3 p) (U + k)) : PLs b3 p m3 w3 (U + k) B W Y := by
  obtain ⟨⟨⟨p1, p2, p3⟩, p4, p5⟩, ⟨p6, p7, p8⟩, ⟨p9, p10, p11⟩, p12, p13, p14⟩ := pl
  have fF : ∀ d, d ≠ 4 → m3.1 (pq p d) = m.1 (pq p d) := fun d h => f.1 _ (by simp; exact pq_inj h)
  have jm : ∀ d, d ≠ 2 → m3.2.2.2 (pq p d) = m.2.2.2 (pq p d) := fun d h => f.2.2.2 _ (by simp; exact pq_inj h)
  have fG : ∀ d, d ≠ 4 → F m3 (pq p d) = F m (pq p d) := fun d h => congrArg Int32.toInt (fF d h)
  exact ⟨⟨⟨e4, e89, hU⟩, is, by rw [fF 5 (by omega), g.2.2.1 90 (by simp)]; exact p5⟩, ⟨by rw [fG 24 (by omega)]; exact p6, by rw [FR.A g (by simp)]; exact p7, fun i hi => by rw [jm 33 (by omega), g.2.2.2 93 (by simp)]; exact RTb_mo bb (p8 i hi)⟩, ⟨by rw [fG 26 (by omega)]; exact p9, by rw [FR.A g (by simp)]; exact p10, fun i hi => by rw [jm 35 (by omega), g.2.2.2 91 (by simp)]; exact RTb_mo bb (p11 i hi)⟩, by rw [fG 7 (by omega)]; exact p12, by rw [FR.A g (by simp)]; exact p13, fun i hi => by rw [jm 6 (by omega), g.2.2.2 107 (by simp)]; exact RTb_mo bb (p14 i hi)⟩
end
