set_option maxRecDepth 100000
def FBD (N : Nat) (m0 w0 : MS) (pd : Int32 → Int32 → Nat) (mP : MS) (f : Nat) (d : FDT) : Prop := (∃ i, i < f ∧ mP.2.2.1 24 i = mP.2.2.1 24 f ∧ mP.2.2.1 25 i = mP.2.2.1 25 f) ∨ pd (w0.2.2.1 7 d.1) (I (d.2.2.2.1 : Nat)) ≠ 0 ∨ ∃ b, b ∈ d.2.2.2.2.1 :: d.2.2.2.2.2 ∧ CBD N m0 d.1 d.2.2.2.1 mP b
def FSMd (d : FDT) : Prop := ∀ b, b ∈ d.2.2.2.2.1 :: d.2.2.2.2.2 → b.2.2.2.1 ≤ 40 ∧ b.2.2.2.2.2.1 = false
section
variable {α : Type} {m0 w0 m w v u m2 m3 mP : MS} {K nm Nk W : Nat → Nat} {T p n N g n2 f k M lo hi cm p0 ar tok : Nat} {P P1 P2 B : Prop} {x y r : Int32} {a a' : CLT} {L : List CLT} {pd : Int32 → Int32 → Nat} {d : FDT} {D : Nat → FDT}
theorem PDK_f (h : PDK m0 m) (k : FRC m v) : PDK m0 v := ⟨Kc_tr h.1 ⟨fun j hj => k.1 j (by omega), fun j hj => k.2 j (by omega)⟩, fun j h1 h2 => (k.1 j (by omega)).trans (h.2.1 j h1 h2), fun j h1 h2 => (k.2 j (by omega)).trans (h.2.2 j h1 h2)⟩
theorem onf_p (cA : CTA m0 w0 K T) (cP : CTP N m0 w0 K T pd) (hg : mP.1 442 = I (g : Nat)) (hg6 : g ≤ 666) (hf : f < g) (hF : FCF N K nm m0 mP T n f d) (hP : PDK m0 mP) (fr : FRC mP m) (ke : Kec mP m) (h714 : m.1 714 = 1000000000) (h712 : m.1 712 = 0) (h713 : m.1 713 = 0) : PK (fun v (_ : Unit) => ONQ (FBD N m0 w0 pd mP f d) (FSMd d) m v) (hm_Cm_oneFunction N m (I (f : Nat))) := by
  obtain ⟨⟨a1, a2, a3, a4, a5, a6, a7⟩, b1, b2, b3, b4, b5⟩ := hF
  have f5 : f ≤ 665 := by omega
  have e24 : m.2.2.1 24 = mP.2.2.1 24 := ke 24 (by decide) (by decide)
  have e25 : m.2.2.1 25 = mP.2.2.1 25 := ke 25 (by decide) (by decide)
  have e27 : m.2.2.1 27 = mP.2.2.1 27 := ke 27 (by decide) (by decide)
  have g442 : m.1 442 = I (g : Nat) := (fr.1 442 (by omega)).trans hg
  have ba := CLOb_b (a1 d.2.2.2.2.1 List.mem_cons_self)
  have t17 : mP.2.2.1 17 d.2.2.2.2.1.1 = I (d.1 : Nat) ∧ d.1 ≤ 4000 := by
    obtain ⟨mi, li, ni, q0, q1, q4, sc1, e5, X1, X2, W, R1, R2, Z1, Z2, C1, C2, lp, c1, c2, c3, c4, c5, c6, c7, c8, c9⟩ := a1 d.2.2.2.2.1 List.mem_cons_self
    rw [← a4]
    exact c8
  have m17 : m.2.2.1 17 d.2.2.2.2.1.1 = I (d.1 : Nat) := by rw [fr.2 17 (by omega)]; exact t17.1
  show PK _ (hb_Cm_oneFunction_0 N (hg_Cm_oneFunction N N) m (I (f : Nat)))
  unfold hb_Cm_oneFunction_0
  rw [tnI (n := f) rfl (by omega), e24, e25, e27, b1, b2, b4, tnI (n := d.2.2.2.2.1.1) rfl (by omega), m17]
  have zz : ∀ {u : MS}, Kzc m u → FBD N m0 w0 pd mP f d → PK (fun v (_ : Unit) => ONQ (FBD N m0 w0 pd mP f d) (FSMd d) m v) (hb_Cm_oneFunction_79 N (hg_Cm_oneFunction N N) u (I (f : Nat))) := fun {u} hz hb v r e => Or.inl ⟨hb, yz_hb_Cm_oneFunction_79 hz (yz_hg_Cm_oneFunction (u0 := m) (N := N) N) v r e⟩
  have n73 : FBD N m0 w0 pd mP f d → PK (fun v (_ : Unit) => ONQ (FBD N m0 w0 pd mP f d) (FSMd d) m v) (hb_Cm_oneFunction_73 N (hg_Cm_oneFunction N N) m (I (f : Nat)) (I (d.1 : Nat))) := fun hb v r e => by
    unfold hb_Cm_oneFunction_73 at e
    exact pk_bnd (pk_mo (fun w r2 e2 => flt_4 t17.2 FRC_rf w r2 e2) (fun w _ hw => zz hw hb)) v r e
  refine pk_ck (fun _ => pk_ck (fun _ => pk_ck (fun _ => pk_ck (fun _ => pk_bnd ?_))))
  have sk : PK _ (hm_Co_seek N m (m0.2.2.1 7 d.1) (I (d.2.2.2.1 : Nat))) := seek_p (x := m0.2.2.1 7 d.1) (y := I (d.2.2.2.1 : Nat)) g442 (by omega) N 0 (Nat.zero_le _) (fun i hi => absurd hi (by omega))
  refine pk_mo sk (fun u92 r92 hs => ?_)
  obtain ⟨e0, hs⟩ := hs
  rw [e0]
  clear e0
  have own : m.2.2.1 24 f = m0.2.2.1 7 d.1 ∧ m.2.2.1 25 f = I (d.2.2.2.1 : Nat) := by rw [e24, e25]; exact ⟨b1, b2⟩
  obtain ⟨i, hi, hr, hm, hk⟩ : ∃ i : Nat, i < g ∧ r92 = I (i : Nat) ∧ (m.2.2.1 24 i = m0.2.2.1 7 d.1 ∧ m.2.2.1 25 i = I (d.2.2.2.1 : Nat)) ∧ ∀ k, k < i → ¬ (m.2.2.1 24 k = m0.2.2.1 7 d.1 ∧ m.2.2.1 25 k = I (d.2.2.2.1 : Nat)) := by
    rcases hs with hs | hs
    · exact absurd own (hs.2 f hf)
    · exact hs
  have fi : i ≤ f := by
    by_cases z : f < i
    · exact absurd own (hk f z)
    · omega
  rw [hr, show decide (I (i : Nat) = I (f : Nat)) = decide (i = f) from decide_eq_decide.mpr ⟨fun z => by have := (I_eq (x := (i : Nat)) (y := (f : Nat)) (by omega) (by omega) (by omega) (by omega)).mp z; omega, fun z => by rw [z]⟩]
  by_cases z : i = f
  · rw [decide_eq_true z, br_tq]
    have nodup : ¬ ∃ j, j < f ∧ mP.2.2.1 24 j = mP.2.2.1 24 f ∧ mP.2.2.1 25 j = mP.2.2.1 25 f := fun ⟨j, j1, j2, j3⟩ => hk j (by omega) (by rw [e24, e25, j2, j3]; exact ⟨b1, b2⟩)
    refine pk_ck (fun _ => pk_ck (fun _ => ?_))
    have x7 : m0.2.2.1 7 d.1 = w0.2.2.1 7 d.1 := cA d.1 a7.2 (Or.inr a7.1)
    obtain ⟨rr, p1, p2, p3⟩ := (cP d.1 a7.2 a7.1 d.2.2.2.1 a6).2 m (PDK_f hP fr)
    rw [e24, e25, b1, b2, x7, p1, bnd_s]
    by_cases z2 : pd (w0.2.2.1 7 d.1) (I (d.2.2.2.1 : Nat)) = 0
    · rw [decide_eq_true (p2.mpr z2), br_tq]
      unfold hb_Cm_oneFunction_79
      refine pk_lt (pk_lt (pk_ck (fun _ => pk_lt (pk_ck (fun _ => pk_lt (pk_ck (fun _ => pk_lt (pk_ck (fun _ => ?_)))))))))
      generalize hx : upA (upA (upA (upI (upI m 709 0) 706 0) 40 _) 41 _) 29 _ = x
      have xi : ∀ k, k ≠ 709 → k ≠ 706 → x.1 k = m.1 k := fun k h1 h2 => by
        rw [← hx]
        show (upI (upI m 709 0) 706 0).1 k = _
        rw [upI_ne h2, upI_ne h1]
      have xr : ∀ k, k ≠ 40 → k ≠ 41 → k ≠ 29 → x.2.2.1 k = m.2.2.1 k := fun k h1 h2 h3 => by
        rw [← hx, upA_no h3, upA_no h2, upA_no h1]
        rfl
      have x709 : x.1 709 = 0 := by
        rw [← hx]
        show (upI (upI m 709 0) 706 0).1 709 = _
        rw [upI_ne (by decide), upI_at]
      have x706 : x.1 706 = 0 := by
        rw [← hx]
        show (upI (upI m 709 0) 706 0).1 706 = _
        exact upI_at
      have x40 : x.2.2.1 40 0 = 0 := by
        rw [← hx, upA_no (by decide), upA_no (by decide), upA_at]
        exact upd_at
      have x41 : x.2.2.1 41 0 = 0 := by
        rw [← hx, upA_no (by decide), upA_at]
        exact upd_at
      clear hx
      rw [tnI (n := f) rfl (by omega), xr 27 (by decide) (by decide) (by decide), e27, b4]
      have frx : FRC m x := ⟨fun k hk => xi k (by omega) (by omega), fun k hk => xr k (by omega) (by omega) (by omega)⟩
      have frP : FRC mP x := FRC_tr fr frx
      have cp : CPR nm false 0 4000 [([], [], 0)] 0 x := ⟨by rw [xi 714 (by decide) (by decide)]; exact h714, ⟨x709, by decide, x706, by decide, x40, fun k y e => (by cases e), trivial⟩, x41, by decide, by rw [xi 713 (by decide) (by decide)]; exact h713, by rw [xi 712 (by decide) (by decide), h712]; rfl, by decide⟩
      refine pk_mo (cf_lp (m0 := m0) (p0 := d.1) (ar := d.2.2.2.1) (mF := mP) (lo := d.2.1) (hi := d.2.2.1) f5 b1 b2 a6 (hP.1.2 7 (by decide)) (d.2.2.2.2.1 :: d.2.2.2.2.2) N x 0 a1 a3 (fun k hk => frP.2 k (by omega)) (fun k hk => frP.1 k (by omega)) (frP.2 24 (by omega)) (frP.2 25 (by omega)) cp) (fun v _ q => ?_)
      have be : (∃ b, b ∈ d.2.2.2.2.1 :: d.2.2.2.2.2 ∧ CBD N m0 d.1 d.2.2.2.1 x b) ↔ FBD N m0 w0 pd mP f d := by
        constructor
        · rintro ⟨b, h1, h2⟩
          exact Or.inr (Or.inr ⟨b, h1, (CBD_st frP).mp h2⟩)
        · rintro (h | h | ⟨b, h1, h2⟩)
          · exact absurd h nodup
          · exact absurd z2 h
          · exact ⟨b, h1, (CBD_st frP).mpr h2⟩
      unfold ONQ at q ⊢
      rw [be] at q
      rcases q with ⟨g1, g2, g3⟩ | ⟨g1, g2, g3, g4, g5⟩
      · exact Or.inl ⟨g1, g2, FRC_tr frx g3⟩
      · refine Or.inr ⟨g1, g2, ⟨g3.1.trans (xi 712 (by decide) (by decide)), g3.2.trans (xi 713 (by decide) (by decide))⟩, FRC_tr frx g4, C1P_q (C1P_l g5 (xi 441 (by decide) (by decide)) (xi 711 (by decide) (by decide))) ⟨fun z => z.2, fun z => ⟨by decide, z⟩⟩⟩
    · rw [decide_eq_false (fun y => z2 (p2.mp y)), br_fq]
      exact n73 (Or.inr (Or.inl z2))
  · rw [decide_eq_false z, br_fq]
    refine n73 (Or.inl ⟨i, by omega, ?_, ?_⟩)
    · rw [b1, ← e24]; exact hm.1
    · rw [b2, ← e25]; exact hm.2
def CEQ (m v : MS) (r : Int32) (B P : Prop) : Prop := FRC m v ∧ Kec m v ∧ ((B ∧ v.1 714 < 1000000000) ∨ (¬ B ∧ v.1 714 = 1000000000 ∧ C1P P m v)) ∧ (v.1 714 = 1000000000 → v.1 711 = 0 → ¬ 60 < v.1 442 → ¬ 200 < v.1 22 → v.1 85 ≤ 1500 → r = 0)
theorem cmp_end : PK (fun v r => v = m ∧ (v.1 714 = 1000000000 → v.1 711 = 0 → ¬ 60 < v.1 442 → ¬ 200 < v.1 22 → v.1 85 ≤ 1500 → r = 0)) (br (decide ((m.1 714) = 1000000000)) (br (decide (60 < (m.1 442))) (hb_Cm_compile_119 N (hg_Cm_compile N M) m) (br (decide (200 < (m.1 22))) (hb_Cm_compile_119 N (hg_Cm_compile N M) m) (br (decide ((m.1 85) ≤ 1500)) (hb_Cm_compile_124 N (hg_Cm_compile N M) m (0)) (hb_Cm_compile_119 N (hg_Cm_compile N M) m)))) (ck (inb ((m.1 714) / 16) 4002) (some (m, (((m.1 714) - (m.1 714) / 16 * 16) + (16 * (m.2.2.1 8 ((m.1 714) / 16).toNatClampNeg))))))) := by
  have e119 : ∀ {Q : MS → Int32 → Prop}, Q m 8 → PK Q (hb_Cm_compile_119 N (hg_Cm_compile N M) m) := fun {Q} h => by
    unfold hb_Cm_compile_119 hb_Cm_compile_124 hb_Cm_compile_136 hb_Cm_compile_142
    rw [show decide ((1 : Int32) = 0) = false from rfl, br_fq]
    exact pk_some h
  refine pk_br (fun z => pk_br (fun z1 => e119 ⟨rfl, fun _ _ h => absurd (of_decide_eq_true z1) h⟩) (fun z1 => pk_br (fun z2 => e119 ⟨rfl, fun _ _ _ h => absurd (of_decide_eq_true z2) h⟩) (fun z2 => pk_br (fun z3 => ?_) (fun z3 => e119 ⟨rfl, fun _ _ _ _ h => absurd h (of_decide_eq_false z3)⟩)))) (fun z => pk_ck (fun _ => pk_some ⟨rfl, fun h => absurd h (of_decide_eq_false z)⟩))
  unfold hb_Cm_compile_124 hb_Cm_compile_136 hb_Cm_compile_142
  rw [show decide ((0 : Int32) = 0) = true from rfl, br_tq]
  exact pk_br (fun _ => pk_some ⟨rfl, fun _ _ _ _ _ => rfl⟩) (fun z4 => pk_some ⟨rfl, fun _ h => absurd h (of_decide_eq_false z4)⟩)
theorem cmp_lp (cA : CTA m0 w0 K T) (cP : CTP N m0 w0 K T pd) (hg : mP.1 442 = I (g : Nat)) (hg6 : g ≤ 666) (hF : ∀ f, f < g → FCF N K nm m0 mP T n f (D f)) (hP : PDK m0 mP) : ∀ (M f : Nat) (m : MS), f ≤ g → FRC mP m → Kec mP m → ((∃ i, i < f ∧ FBD N m0 w0 pd mP i (D i)) ∧ m.1 714 < 1000000000) ∨ ((¬ ∃ i, i < f ∧ FBD N m0 w0 pd mP i (D i)) ∧ m.1 714 = 1000000000 ∧ (m.1 712 = 0 ∧ m.1 713 = 0) ∧ C1P (∀ i, i < f → FSMd (D i)) (upI mP 711 0) m) → PK (fun v r => CEQ (upI mP 711 0) v r (∃ i, i < g ∧ FBD N m0 w0 pd mP i (D i)) (∀ i, i < g → FSMd (D i))) (hg_Cm_compile N M m (I (f : Nat)))
  | 0, _, _, _, _, _, _ => pk_none
  | M + 1, f, m, hf, fr, ke, hI => by
    have g442 : m.1 442 = I (g : Nat) := (fr.1 442 (by omega)).trans hg
    have fr0 : ∀ {v : MS}, FRC mP v → FRC (upI mP 711 0) v := fun {v} h => ⟨fun k hk => (h.1 k hk).trans (upI_ne (by omega)).symm, h.2⟩
    show PK _ (hb_Cm_compile_23 N (hg_Cm_compile N M) m (I (f : Nat)))
    unfold hb_Cm_compile_23
    rw [show decide (m.1 442 ≤ I (f : Nat)) = decide (g ≤ f) from by rw [g442]; exact decide_eq_decide.mpr ((I_le (x := (g : Nat)) (y := (f : Nat)) (by omega) (by omega) (by omega) (by omega)).trans (by omega))]
    by_cases z : g ≤ f
    · have : f = g := by omega
      subst this
      rw [decide_eq_true z, br_tq]
      refine pk_mo cmp_end (fun v r q => ?_)
      obtain ⟨rfl, q⟩ := q
      refine ⟨fr0 fr, ke, ?_, q⟩
      rcases hI with hI | ⟨h1, h2, h3, h4⟩
      · exact Or.inl hI
      · exact Or.inr ⟨h1, h2, h4⟩
    · rw [decide_eq_false z, br_fq, i_suc]
      have ky : PK (fun v (_ : Unit) => Kec mP v) (hm_Cm_oneFunction N m (I (f : Nat))) := fun v r e => ye_hm_Cm_oneFunction (u0 := mP) ke v r e
      rcases hI with ⟨h1, h2⟩ | ⟨h1, h2, h3, h4⟩
      · have kz : PK (fun v (_ : Unit) => Kzc mP v) (hm_Cm_oneFunction N m (I (f : Nat))) := fun v r e => yz_hm_Cm_oneFunction (u0 := mP) ⟨h2, fr⟩ v r e
        refine pk_bnd (pk_mo (pk_and kz ky) (fun u _ q => ?_))
        obtain ⟨i, i1, i2⟩ := h1
        exact cmp_lp cA cP hg hg6 hF hP M (f + 1) u (by omega) q.1.2 q.2 (Or.inl ⟨⟨i, by omega, i2⟩, q.1.1⟩)
      · refine pk_bnd (pk_mo (pk_and (onf_p cA cP hg hg6 (by omega) (hF f (by omega)) hP fr ke h2 h3.1 h3.2) ky) (fun u _ q => ?_))
        obtain ⟨q, q0⟩ := q
        rcases q with ⟨g1, g2, g3⟩ | ⟨g1, g2, g3, g4, g5⟩
        · exact cmp_lp cA cP hg hg6 hF hP M (f + 1) u (by omega) (FRC_tr fr g3) q0 (Or.inl ⟨⟨f, by omega, g1⟩, g2⟩)
        · refine cmp_lp cA cP hg hg6 hF hP M (f + 1) u (by omega) (FRC_tr fr g4) q0 (Or.inr ⟨fun ⟨i, i1, i2⟩ => ?_, g2, ⟨g3.1.trans h3.1, g3.2.trans h3.2⟩, C1P_q (C1P_tr h4 g5) ⟨fun z i hi => ?_, fun z => ⟨fun i hi => z i (by omega), z f (by omega)⟩⟩⟩)
          · by_cases e : i = f
            · rw [e] at i2; exact g1 i2
            · exact h1 ⟨i, by omega, i2⟩
          · by_cases e : i = f
            · rw [e]; exact z.2
            · exact z.1 i (by omega)
theorem cmp_p (cA : CTA m0 w0 K T) (cP : CTP N m0 w0 K T pd) (hg : mP.1 442 = I (g : Nat)) (hg6 : g ≤ 666) (hF : ∀ f, f < g → FCF N K nm m0 mP T n f (D f)) (hP : PDK m0 mP) : PK (fun v r => CEQ (upI mP 711 0) v r (∃ i, i < g ∧ FBD N m0 w0 pd mP i (D i)) (∀ i, i < g → FSMd (D i))) (hm_Cm_compile N mP) := by
  show PK _ (hb_Cm_compile_0 N (hg_Cm_compile N N) mP)
  unfold hb_Cm_compile_0
  refine pk_lt (pk_lt (pk_lt (pk_lt ?_)))
  rw [show (0 : Int32) = I ((0 : Nat) : Int) from rfl]
  refine cmp_lp cA cP hg hg6 hF hP N 0 _ (Nat.zero_le _) ?_ (fun _ _ _ => rfl) (Or.inr ⟨fun ⟨i, i1, _⟩ => absurd i1 (by omega), ?_, ⟨?_, upI_at⟩, ?_⟩)
  · exact ⟨fun k hk => by rw [upI_ne (by omega), upI_ne (by omega), upI_ne (by omega), upI_ne (by omega)], fun _ _ => rfl⟩
  · rw [upI_ne (by decide), upI_ne (by decide), upI_ne (by decide), upI_at]
  · rw [upI_ne (by decide), upI_at]
    rfl
  · refine ⟨?_, fun _ => ?_, fun _ _ => ?_⟩
    · rw [upI_ne (by decide), upI_ne (by decide), upI_ne (by decide), upI_ne (by decide), upI_ne (by decide)]
      exact Int32.le_refl _
    · rw [upI_ne (by decide), upI_ne (by decide), upI_at, upI_at]
      exact ⟨fun _ => ⟨fun i hi => absurd hi (by omega), rfl⟩, fun _ => rfl⟩
    · rw [upI_ne (by decide), upI_ne (by decide), upI_at]
      rfl
end
