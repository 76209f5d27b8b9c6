/-! clear of the reference: where blocks went -/
set_option maxRecDepth 100000
/-- as CLR; no two blocks went to one place, and nothing else lies there -/
def CLRx (u : MS) (p : Nat) (h : Nat → Int64) (n : Nat) (ow kd : Nat → Nat) (Fv : Int64 → Int64 → Prop) (P : Int64 → Prop) (opM bnM bxM : Nat) (w : MS) : Prop :=
  ∃ U ow2 kd2 fd R, (HOM h n ow kd (hp w p) U ow2 kd2 P fd R ∧ HP (hp w p) U ow2 kd2 Fv P ∧ (∀ t, isH t → R t → vn (fd t) + blk (hp w p) (fd t) ≤ U ∧ ∀ j, j < blk (hp w p) (fd t) → ow2 (vn (fd t) + j) = vn (fd t)) ∧ U ≤ n ∧ (∀ q, A w 89 q = if q = p then (U : Int) else A u 89 q) ∧ FR [136, 138] [139] [89, 90, 135] [88, 91, 93, 107, 134, 137] u w ∧ (∀ i, ¬ (500 * p ≤ i ∧ i < 500 * p + 500) → w.2.2.2 88 i = u.2.2.2 88 i) ∧ RTS u w fd R 91 (46000 * p) opM ∧ RTS u w fd R 93 (2500 * p) bnM ∧ RTS u w fd R 107 (30 * p) bxM ∧ (F u 140 = p → w.2.1 139 = fd (u.2.1 139) ∧ (isH (u.2.1 139) → R (u.2.1 139))) ∧ (F u 140 ≠ p → w.2.1 139 = u.2.1 139)) ∧ (∀ t1 t2, isH t1 → isH t2 → R t1 → R t2 → vn (fd t1) = vn (fd t2) → vn t1 = vn t2) ∧ ∀ x, x < U → ∃ t, isH t ∧ R t ∧ vn (fd t) ≤ x ∧ x < vn (fd t) + blk (hp w p) (fd t)
section
variable {h h2 : Nat → Int64} {n n2 p N U C sc opM bnM bxM : Nat} {ow kd ow2 kd2 ks : Nat → Nat} {Fv : Int64 → Int64 → Prop} {P : Int64 → Prop} {u w : MS} {t : Int64} {fd : Int64 → Int64} {R : Int64 → Prop}
theorem GC_fix (g : HP h n ow kd Fv P) (hn : n ≤ 500) (c : GC h n ow kd w U C U ow2 kd2 ks) (h2 : Nat → Int64) (hh : ∀ i, i < U → h2 i = w.2.2.2 134 i) :
    ∃ fd R, HOM h n ow kd h2 U ow2 kd2 P fd R ∧ HP h2 U ow2 kd2 Fv P ∧ (∀ t, isH t → R t → vn (fd t) + blk h2 (fd t) ≤ U ∧ ∀ j, j < blk h2 (fd t) → ow2 (vn (fd t) + j) = vn (fd t)) ∧ (∀ t, isH t → GT n ow kd P t → A w 135 (vn t) ≠ -1 → R t) ∧ (∀ t, isH t → fd t = fw w t) ∧ (∀ t, isH t → R t → A w 135 (vn t) ≠ -1) := by
  have c' := c
  obtain ⟨⟨c1, c2, c3, c4⟩, c5, c6, c7, c8, ⟨c9, c10⟩, c11, c12⟩ := c
  have hU : U ≤ 500 := by have := cnt_le (S := fun k => k < 500 ∧ A w 135 k ≠ -1) (ow := ow) n; omega
  have facts : ∀ t, isH t → GT n ow kd P t → A w 135 (vn t) ≠ -1 → vn t < 500 ∧ 0 ≤ A w 135 (vn t) ∧ so (fw w t) = so t ∧ va (fw w t) = A w 135 (vn t) ∧ vn (fw w t) = (A w 135 (vn t)).toNat ∧ bs h kd (vn t) = blk h t ∧ pk kd (vn t) = prt t ∧ (kd (vn t) : Int) = so t := by
    intro t ht gt hm
    rcases gt with ⟨z, -⟩ | ⟨-, g1, g2, g3, g4⟩
    · exact absurd ht z
    have h5 : vn t < 500 := by omega
    have h0 : 0 ≤ A w 135 (vn t) := by rcases c5 _ h5 with z | z; exact absurd z hm; exact z.1
    have hr := A_r w 135 (vn t)
    obtain ⟨be, pe⟩ := bs_eq (h := h) g4 (by omega)
    have e2 : va (fw w t) = A w 135 (vn t) := va_rp h0 hr.2
    exact ⟨h5, h0, so_rp h0 hr.2, e2, by show (va (fw w t)).toNat = _; rw [e2], be, pe, g4⟩
  have hom : HOM h n ow kd h2 U ow2 kd2 P (fun t => if so t = 3 ∨ so t = 5 ∨ so t = 7 then fw w t else t) (fun t => isH t ∧ GT n ow kd P t ∧ A w 135 (vn t) ≠ -1) := by
    refine ⟨fun t ht => if_neg ht, fun t ht r => ?_⟩
    obtain ⟨-, r2, r3⟩ := r
    obtain ⟨q1, q2, q3, q4, q5, q6, q7, q8⟩ := facts t ht r2 r3
    have ef : (if so t = 3 ∨ so t = 5 ∨ so t = 7 then fw w t else t) = fw w t := if_pos ht
    obtain ⟨d1, d2, d3⟩ := c6 _ q1 r3
    have bp := blk_pos (h := h) ht
    have cells := c12 _ q1 r3
    rw [q6, q7] at cells
    rw [q6] at d1 d3
    have hd : ∀ j, j < prt t → h2 (vn (fw w t) + j) = h (vn t + j) := fun j hj => by
      have pl := prt_le (h := h) ht
      rw [q5, hh _ (by omega)]
      exact (cells j (by omega)).2 (fun z => by omega)
    have eb : blk h2 (fw w t) = blk h t := by
      unfold blk
      rw [q3]
      rcases ht with e | e | e
      · rw [e]; simp
        have := hd 1 (by unfold prt; rw [e]; decide)
        rw [this]
      · rw [e]; simp
        have := hd 0 (by unfold prt; rw [e]; decide)
        rw [show vn (fw w t) + 0 = vn (fw w t) from rfl, show vn t + 0 = vn t from rfl] at this
        rw [this]
      · rw [e]; simp
    simp only [ef]
    refine ⟨r2, q3, Or.inr ⟨by unfold isH; rw [q3]; exact ht, by rw [q4]; exact q2, by rw [q5]; omega, ?_, ?_⟩, eb, hd, fun j h1 h2' => ?_⟩
    · rw [q5]; have := d3 0 bp; exact this
    · rw [q5, d2, q8, q3]
    · rw [q5, hh _ (by omega)]
      obtain ⟨y1, y2⟩ := cells j h2'
      by_cases hy : isH (h (vn t + j))
      · obtain ⟨x1, x2⟩ := y1 ⟨by omega, h1, hy⟩
        rw [x2, show (if so (h (vn t + j)) = 3 ∨ so (h (vn t + j)) = 5 ∨ so (h (vn t + j)) = 7 then fw w (h (vn t + j)) else h (vn t + j)) = fw w (h (vn t + j)) from if_pos hy]
        exact ⟨rfl, fun _ => ⟨hy, (HP_bk g ht r2).2 j h1 h2', x1⟩⟩
      · rw [y2 (fun z => hy z.2.2), show (if so (h (vn t + j)) = 3 ∨ so (h (vn t + j)) = 5 ∨ so (h (vn t + j)) = 7 then fw w (h (vn t + j)) else h (vn t + j)) = h (vn t + j) from if_neg hy]
        exact ⟨rfl, fun z => absurd z hy⟩
  have hg2 : ∀ t, isH t → (isH t ∧ GT n ow kd P t ∧ A w 135 (vn t) ≠ -1) → vn ((fun t => if so t = 3 ∨ so t = 5 ∨ so t = 7 then fw w t else t) t) + blk h2 ((fun t => if so t = 3 ∨ so t = 5 ∨ so t = 7 then fw w t else t) t) ≤ U ∧ ∀ j, j < blk h2 ((fun t => if so t = 3 ∨ so t = 5 ∨ so t = 7 then fw w t else t) t) → ow2 (vn ((fun t => if so t = 3 ∨ so t = 5 ∨ so t = 7 then fw w t else t) t) + j) = vn ((fun t => if so t = 3 ∨ so t = 5 ∨ so t = 7 then fw w t else t) t) := by
    intro t ht r
    obtain ⟨-, -, -, a4, -⟩ := hom.2 t ht r
    obtain ⟨q1, q2, q3, q4, q5, q6, q7, q8⟩ := facts t ht r.2.1 r.2.2
    obtain ⟨d1, d2, d3⟩ := c6 _ q1 r.2.2
    rw [a4]
    simp only [show (if so t = 3 ∨ so t = 5 ∨ so t = 7 then fw w t else t) = fw w t from if_pos ht]
    rw [q5, ← q6]
    exact ⟨d1, d3⟩
  refine ⟨_, _, hom, ?_, hg2, fun t a b c => ⟨a, b, c⟩, fun t ht => if_pos ht, fun t _ r => r.2.2⟩
  intro t ht gt
  rcases gt with ⟨z, -⟩ | ⟨-, g1, g2, g3, g4⟩
  · exact absurd ht z
  obtain ⟨i, hi, i1, i2⟩ := GC_find c' g2
  obtain ⟨k1, k2, -⟩ := c8 i hi
  obtain ⟨d1, d2, d3⟩ := c6 _ k1 k2
  have k0 : 0 ≤ A w 135 (ks i) := by rcases c5 _ k1 with z | z; exact absurd z k2; exact z.1
  have e1 : vn t = (A w 135 (ks i)).toNat := by
    have := d3 (vn t - (A w 135 (ks i)).toNat) (by omega)
    rw [show (A w 135 (ks i)).toNat + (vn t - (A w 135 (ks i)).toNat) = vn t from by omega, g3] at this
    exact this
  obtain ⟨z1, z2, z3, z4⟩ : 0 ≤ A w 135 (ks i) ∧ ks i < n ∧ ow (ks i) = ks i ∧ (kd (ks i) = 3 ∨ kd (ks i) = 5 ∨ kd (ks i) = 7) := by rcases c5 _ k1 with z | z; exact absurd z k2; exact z
  have y1 : so (mk (kd (ks i)) (ks i)) = kd (ks i) := so_mk (by omega) (by omega)
  have y2 : vn (mk (kd (ks i)) (ks i)) = ks i := by show (va _).toNat = _; rw [va_mk (by omega) (by omega)]; omega
  have y3 : isH (mk (kd (ks i)) (ks i)) := by unfold isH; rw [y1]; omega
  have y4 : GT n ow kd P (mk (kd (ks i)) (ks i)) := Or.inr ⟨y3, by rw [va_mk (by omega) (by omega)]; omega, by rw [y2]; exact z2, by rw [y2]; exact z3, by rw [y2, y1]⟩
  obtain ⟨f, s, s1, s2⟩ := g _ y3 y4
  have rr : isH (mk (kd (ks i)) (ks i)) ∧ GT n ow kd P (mk (kd (ks i)) (ks i)) ∧ A w 135 (vn (mk (kd (ks i)) (ks i))) ≠ -1 := ⟨y3, y4, by rw [y2]; exact k2⟩
  have sz := HOM_sz hom hg2 g s1 (fun _ => rr)
  obtain ⟨a1, a2, a3, a4, a5, a6⟩ := hom.2 _ y3 rr
  obtain ⟨q1, q2, q3, q4, q5, q6, q7, q8⟩ := facts _ y3 y4 rr.2.2
  have ef : (if so (mk (kd (ks i)) (ks i)) = 3 ∨ so (mk (kd (ks i)) (ks i)) = 5 ∨ so (mk (kd (ks i)) (ks i)) = 7 then fw w (mk (kd (ks i)) (ks i)) else mk (kd (ks i)) (ks i)) = fw w (mk (kd (ks i)) (ks i)) := if_pos y3
  simp only [ef] at sz a2 a3 a4 a5 a6
  have es : so t = so (fw w (mk (kd (ks i)) (ks i))) := by rw [q3, y1, ← g4, e1, d2]
  have eva : va t = va (fw w (mk (kd (ks i)) (ks i))) := by
    rw [q4, y2]
    unfold vn at e1
    omega
  refine ⟨f, s, SZ_same es eva (by unfold isH; rw [q3]; exact y3) sz, fun h5 => ?_⟩
  obtain ⟨r1, r2, r3⟩ := s2 h5
  have evn : vn t = vn (fw w (mk (kd (ks i)) (ks i))) := by unfold vn; rw [eva]
  refine ⟨by rw [es, q3]; exact r1, ?_, ?_⟩
  · have : blk h2 t = blk h2 (fw w (mk (kd (ks i)) (ks i))) := by unfold blk; rw [es, evn]
    rw [this, a4]; exact r2
  · have := (a6 1 (by unfold prt; rw [r1]; decide) (by omega)).1
    rw [evn, this]
    rw [show (if so (h (vn (mk (kd (ks i)) (ks i)) + 1)) = 3 ∨ so (h (vn (mk (kd (ks i)) (ks i)) + 1)) = 5 ∨ so (h (vn (mk (kd (ks i)) (ks i)) + 1)) = 7 then fw w (h (vn (mk (kd (ks i)) (ks i)) + 1)) else h (vn (mk (kd (ks i)) (ks i)) + 1)) = h (vn (mk (kd (ks i)) (ks i)) + 1) from if_neg r3]
    exact r3
theorem cl56x (cx : CX u p h n ow kd Fv P opM bnM bxM) (hN : 600 ≤ N) : ∀ (m : Nat),
    (∀ (w : MS) (U C sc i : Nat) (ow2 kd2 ks : Nat → Nat), IV u p h n ow kd U C sc ow2 kd2 ks opM bnM bxM w → HD u p w → i ≤ C → (i < C → A w 135 (ks i) = sc) → (i = C → sc = U) → (500 - sc) + 2 * (500 - i) + 600 < m → OK (fun w2 _ => CLRx u p h n ow kd Fv P opM bnM bxM w2) ((gg_M_clear N m).2.2.2.2.1 w (I p) (I i))) ∧
    (∀ (w : MS) (U C sc i j : Nat) (ow2 kd2 ks : Nat → Nat), IV u p h n ow kd U C sc ow2 kd2 ks opM bnM bxM w → HD u p w → i < C → pk kd (ks i) ≤ j → j ≤ bs h kd (ks i) → A w 135 (ks i) + j = sc → (500 - sc) + 2 * (500 - i) + 599 < m → OK (fun w2 _ => CLRx u p h n ow kd Fv P opM bnM bxM w2) ((gg_M_clear N m).2.2.2.2.2.1 w (I p) (I i) (I (A w 135 (ks i))) (I (bs h kd (ks i))) (I j))) := by
  have cx' := cx
  obtain ⟨x1, x2, x3, x4, x5, x6, x7, x8, x9, x10, x11⟩ := cx
  intro m
  induction m with
  | zero => exact ⟨fun w U C sc i _ _ _ _ _ _ _ _ z => absurd z (Nat.not_lt_zero _), fun w U C sc i j _ _ _ _ _ _ _ _ _ z => absurd z (Nat.not_lt_zero _)⟩
  | succ m ih =>
    obtain ⟨ih1, ih2⟩ := ih
    refine ⟨fun w U C sc i ow2 kd2 ks iv hd hi hs1 hs2 hm => ?_, fun w U C sc i j ow2 kd2 ks iv hd hi hpj hj hsc hm => ?_⟩
    · have ehp := IV_hp iv x1
      obtain ⟨v1, v2, v3, v4, v5, v6⟩ := iv
      have v2c := v2
      obtain ⟨⟨c1, c2, c3, c4⟩, c5, c6, c7, c8, c9, c11, c12⟩ := v2
      show OK _ (fb_M_clear_204 N (gg_M_clear N m) w (I p) (I i))
      unfold fb_M_clear_204
      rw [I_F' c2, decI (by omega) (by omega) (by omega) (by omega)]
      by_cases e : C ≤ i
      · have es : sc = U := hs2 (by omega)
        subst es
        rw [decide_eq_true (by omega), br_t, inb_at (k := 89) (n := 25) rfl (by omega) (by omega) (by decide), ck_t, lt_e, I_tn (by omega) (by omega), Int.toNat_natCast, I_F' c1, wa_e, lit0]
        refine ok_mono (cl7 (w0 := wa w 89 p sc) x4 v3 m 0 (wa w 89 p sc) (by omega) (by omega) c1 (fun j hj => absurd hj (Nat.not_lt_zero _)) FR.rf (fun _ _ => rfl)) (fun w2 _ ⟨q1, q2, q3⟩ => ?_)
        have e134 : w2.2.2.2 134 = w.2.2.2 134 := q1.2.2.2 134 (by decide)
        obtain ⟨fd, R, r1, r2, r3, r4, r5, r6⟩ := GC_fix (P := P) x2 x3 v2c (hp w2 p) (fun i hi => by rw [q2 i hi, e134])
        have eJ : ∀ K, K ≠ 88 → w2.2.2.2 K = w.2.2.2 K := fun K hK => q1.2.2.2 K (by simp [hK])
        refine ⟨sc, ow2, kd2, fd, R, ⟨r1, r2, r3, Nat.le_trans c7 (cnt_le n), fun q => ?_, ?_, fun i hi => ?_, RM_fd v4 x8 r1.1 r4 r5 (eJ 91 (by decide)), RM_fd v5 x9 r1.1 r4 r5 (eJ 93 (by decide)), RM_fd v6 x10 r1.1 r4 r5 (eJ 107 (by decide)), fun z => ?_, fun z => ?_⟩, fun t1 t2 z1 z2 y1 y2 e9 => ?_, fun x hx => ?_⟩
        · rw [FR.A q1 (by decide), A_wa (by omega) (by omega), if_pos rfl, FR.A v1 (by decide)]
        · have f0 : FR [136, 138] [139] [89, 90, 135] [88, 91, 93, 107, 134, 137] u w := FR.mo v1 (fun _ z => z) (fun _ z => z) (fun k z => List.mem_cons_of_mem _ z) (fun k z => List.mem_cons_of_mem _ z)
          refine FR.tr (FR.wa f0 (by decide)) (FR.mo q1 (fun _ z => by cases z) (fun _ z => by cases z) (fun _ z => by cases z) (fun k z => by rw [List.mem_singleton.mp z]; decide))
        · rw [q3 i hi]
          show w.2.2.2 88 i = _
          rw [v1.2.2.2 88 (by decide)]
        · have e1 : w2.2.1 139 = w.2.1 139 := q1.2.1 139 (by decide)
          rw [e1]
          exact MV_fd (hd.1 z) (x11 z) r1.1 r4 r5
        · have e1 : w2.2.1 139 = w.2.1 139 := q1.2.1 139 (by decide)
          rw [e1]
          exact hd.2 z
        · have g1 := (r1.2 t1 z1 y1).1
          have g2 := (r1.2 t2 z2 y2).1
          have m1 := r6 t1 z1 y1
          have m2 := r6 t2 z2 y2
          rw [r5 t1 z1, r5 t2 z2] at e9
          rcases g1 with ⟨z, -⟩ | ⟨-, g11, g12, g13, g14⟩
          · exact absurd z1 z
          rcases g2 with ⟨z, -⟩ | ⟨-, g21, g22, g23, g24⟩
          · exact absurd z2 z
          have a1 : 0 ≤ A w 135 (vn t1) := by rcases c5 _ (show vn t1 < 500 by omega) with z | z; exact absurd z m1; exact z.1
          have a2 : 0 ≤ A w 135 (vn t2) := by rcases c5 _ (show vn t2 < 500 by omega) with z | z; exact absurd z m2; exact z.1
          have b1 := A_r w 135 (vn t1)
          have b2 := A_r w 135 (vn t2)
          have w1 : vn (fw w t1) = (A w 135 (vn t1)).toNat := by show (va (fw w t1)).toNat = _; unfold fw; rw [va_rp a1 b1.2]
          have w2 : vn (fw w t2) = (A w 135 (vn t2)).toNat := by show (va (fw w t2)).toNat = _; unfold fw; rw [va_rp a2 b2.2]
          rw [w1, w2] at e9
          have p1 := (GC_bp v2c x3 (show vn t1 < 500 by omega) m1).1
          have p2 := (GC_bp v2c x3 (show vn t2 < 500 by omega) m2).1
          exact (GC_inj v2c x3 (show vn t1 < 500 by omega) m1 (show vn t2 < 500 by omega) m2 p1 p2 (by omega)).1
        · obtain ⟨i, i1, i2, i3⟩ := GC_find v2c hx
          obtain ⟨d1, d2, -⟩ := c8 i i1
          rcases c5 _ d1 with z | ⟨k0, k1, k2, k3⟩
          · exact absurd z d2
          have y1 : so (mk (kd (ks i)) (ks i)) = kd (ks i) := so_mk (by omega) (by omega)
          have y0 : va (mk (kd (ks i)) (ks i)) = ((ks i : Nat) : Int) := va_mk (by omega) (by omega)
          have y2 : vn (mk (kd (ks i)) (ks i)) = ks i := by show (va _).toNat = _; rw [y0]; omega
          have y3 : isH (mk (kd (ks i)) (ks i)) := by unfold isH; rw [y1]; omega
          have gt : GT n ow kd P (mk (kd (ks i)) (ks i)) := Or.inr ⟨y3, by rw [y0]; omega, by rw [y2]; exact k1, by rw [y2]; exact k2, by rw [y2, y1]⟩
          have rr := r4 _ y3 gt (by rw [y2]; exact d2)
          have hr := A_r w 135 (ks i)
          have w1 : vn (fd (mk (kd (ks i)) (ks i))) = (A w 135 (ks i)).toNat := by rw [r5 _ y3]; unfold fw; rw [y2]; unfold vn; rw [va_rp k0 hr.2]
          have bb : blk (hp w2 p) (fd (mk (kd (ks i)) (ks i))) = bs h kd (ks i) := (r1.2 _ y3 rr).2.2.2.1
          exact ⟨_, y3, rr, by rw [w1]; omega, by rw [w1, bb]; omega⟩
      · obtain ⟨d1, d2, d3, d4, d5, d6⟩ := c8 i (by omega)
        obtain ⟨p1, p2, p3⟩ := GC_bp v2c x3 d1 d2
        have eU := (c6 _ d1 d2).1
        have esc := hs1 (by omega)
        have cells := c12 _ d1 d2
        rw [decide_eq_false (by omega), br_f, inb_at (k := 137) (n := 500) rfl (by omega) (by omega) (by decide), ck_t, I_tn (by omega) (by omega), Int.toNat_natCast, valueOf_e, bnd_so, sortOf_e, bnd_so, d4, d3]
        have hkd : kd (ks i) = 3 ∨ kd (ks i) = 5 ∨ kd (ks i) = 7 := by rcases c5 _ d1 with z | z; exact absurd z d2; exact z.2.2.2
        have hkn : ks i < n := by rcases c5 _ d1 with z | z; exact absurd z d2; exact z.2.1
        have y1 : so (mk (kd (ks i)) (ks i)) = kd (ks i) := so_mk (by omega) (by omega)
        have y2 : vn (mk (kd (ks i)) (ks i)) = ks i := by show (va _).toNat = _; rw [va_mk (by omega) (by omega)]; omega
        have y3 : isH (mk (kd (ks i)) (ks i)) := by unfold isH; rw [y1]; omega
        have hso : so (w.2.2.2 137 i) = so (mk (kd (ks i)) (ks i)) := by rw [d3, y1]
        have hH : isH (w.2.2.2 137 i) := by unfold isH; rw [hso]; exact y3
        have hp0 : prt (w.2.2.2 137 i) = pk kd (ks i) := prt_so hso
        -- on to its parts
        have go : ∀ t0 : Int32, t0 = I (bs h kd (ks i)) → OK (fun w2 _ => CLRx u p h n ow kd Fv P opM bnM bxM w2) (fb_M_clear_273 N (gg_M_clear N m) w (I p) (I i) (w.2.2.2 137 i) (I (A w 135 (ks i))) t0) := by
          intro t0 ht0
          subst ht0
          unfold fb_M_clear_273
          rw [partsFrom_e hH, bnd_so, hp0]
          have gsc : GC h n ow kd w U C (sc + pk kd (ks i)) ow2 kd2 ks := GC_sc v2c (by omega) (by omega) (fun k2 j2 a1 a2 a3 a4 a5 => by
            obtain ⟨e1, e2⟩ := GC_inj v2c x3 a1 a2 d1 d2 a3 (j2 := (A w 135 k2).toNat + j2 - sc) (by omega) (by omega)
            subst e1
            omega)
          exact ih2 w U C (sc + pk kd (ks i)) i (pk kd (ks i)) ow2 kd2 ks ⟨v1, gsc, v3, v4, v5, v6⟩ hd (by omega) (Nat.le_refl _) p2 (by omega) (by omega)
        have hr := A_r w 135 (ks i)
        have cl5 : (7 : Int32) = I 7 := rfl
        have cl6 : (5 : Int32) = I 5 := rfl
        have ebk : (bs h kd (ks i) : Int) = blk h (mk (kd (ks i)) (ks i)) := rfl
        rw [cl5, cl6, decE (by omega) (by omega) (by omega) (by omega), decE (by omega) (by omega) (by omega) (by omega)]
        have bkk := (HP_bk (P := P) x2 y3 (Or.inr ⟨y3, by rw [va_mk (by omega) (by omega)]; omega, by rw [y2]; exact hkn, by rw [y2]; rcases c5 _ d1 with z | z; exact absurd z d2; exact z.2.2.1, by rw [y2, y1]⟩)).1
        rcases hkd with e3 | e5 | e7
        · have eb2 : bs h kd (ks i) = 2 + vn (h (ks i + 1)) := by show blk h (mk (kd (ks i)) (ks i)) = _; unfold blk; rw [y1, y2, e3]; rfl
          have b30 : 0 ≤ va (h (ks i + 1)) := by have := (bkk.2.2.1 (by rw [y1, e3]; rfl)).1; rw [y2] at this; exact this
          have ep2 : pk kd (ks i) = 2 := by show prt (mk (kd (ks i)) (ks i)) = _; unfold prt; rw [y1, e3]; rfl
          rw [e3, decide_eq_false (by decide), br_f, decide_eq_false (by decide), br_f, lit1, I_add, inb_at (k := 134) (n := 500) rfl (by omega) (by omega) (by decide), ck_t, I_tn (by omega) (by omega), show (A w 135 (ks i) + 1).toNat = (A w 135 (ks i)).toNat + 1 from by omega, (cells 1 (by omega)).2 (fun z => by omega)]
          refine go _ ?_
          rw [I_of (h (ks i + 1)).toInt32, show (2 : Int32) = I 2 from rfl, I_add]
          congr 1
          show (2 : Int) + va (h (ks i + 1)) = _
          unfold vn at eb2
          omega
        · have eb2 : bs h kd (ks i) = 1 + vn (h (ks i)) := by show blk h (mk (kd (ks i)) (ks i)) = _; unfold blk; rw [y1, y2, e5]; rfl
          have b20 : 0 ≤ va (h (ks i)) := by have := (bkk.2.1 (by rw [y1, e5]; rfl)).1; rw [y2] at this; exact this
          have ep2 : pk kd (ks i) = 1 := by show prt (mk (kd (ks i)) (ks i)) = _; unfold prt; rw [y1, e5]; rfl
          have c0 := (cells 0 (by omega)).2 (fun z => by omega)
          rw [show (A w 135 (ks i)).toNat + 0 = (A w 135 (ks i)).toNat from rfl, show ks i + 0 = ks i from rfl] at c0
          rw [e5, decide_eq_false (by decide), br_f, decide_eq_true (by decide), br_t, inb_at (k := 134) (n := 500) rfl (by omega) (by omega) (by decide), ck_t, I_tn (by omega) (by omega), c0]
          refine go _ ?_
          rw [I_of (h (ks i)).toInt32, lit1, I_add]
          congr 1
          show (1 : Int) + va (h (ks i)) = _
          unfold vn at eb2
          omega
        · have eb2 : bs h kd (ks i) = 2 := by show blk h (mk (kd (ks i)) (ks i)) = _; unfold blk; rw [y1, e7]; rfl
          rw [e7, decide_eq_true (by decide), br_t]
          refine go _ ?_
          rw [eb2]; rfl
    · have ehp := IV_hp iv x1
      have iv' := iv
      obtain ⟨v1, v2, v3, v4, v5, v6⟩ := iv
      have v2c := v2
      obtain ⟨⟨c1, c2, c3, c4⟩, c5, c6, c7, c8, c9, c11, c12⟩ := v2
      obtain ⟨d1, d2, d3, d4, d5, d6⟩ := c8 i hi
      obtain ⟨p1, p2, p3⟩ := GC_bp v2c x3 d1 d2
      have eU := (c6 _ d1 d2).1
      have hr := A_r w 135 (ks i)
      show OK _ (fb_M_clear_281 N (gg_M_clear N m) w (I p) (I i) (I (A w 135 (ks i))) (I (bs h kd (ks i))) (I j))
      unfold fb_M_clear_281
      rw [decI (by omega) (by omega) (by omega) (by omega)]
      by_cases e : bs h kd (ks i) ≤ j
      · rw [decide_eq_true (by omega), br_t, lit1, I_add]
        refine ih1 w U C sc (i + 1) ow2 kd2 ks iv' hd (by omega) (fun z => by have := d5 z; omega) (fun z => by have := d6 z; omega) (by omega)
      · rw [decide_eq_false (by omega), br_f, I_add, inb_at (k := 134) (n := 500) rfl (by omega) (by omega) (by decide), ck_t, I_tn (by omega) (by omega), show (A w 135 (ks i) + (j : Int)).toNat = sc from by omega]
        have raw : w.2.2.2 134 sc = h (ks i + j) := by
          have := (c12 _ d1 d2 j (by omega)).2 (fun z => by omega)
          rw [show (A w 135 (ks i)).toNat + j = sc from by omega] at this
          exact this
        have hkn : ks i < n := by rcases c5 _ d1 with z | z; exact absurd z d2; exact z.2.1
        have hkd : kd (ks i) = 3 ∨ kd (ks i) = 5 ∨ kd (ks i) = 7 := by rcases c5 _ d1 with z | z; exact absurd z d2; exact z.2.2.2
        have y1 : so (mk (kd (ks i)) (ks i)) = kd (ks i) := so_mk (by omega) (by omega)
        have y2 : vn (mk (kd (ks i)) (ks i)) = ks i := by show (va _).toNat = _; rw [va_mk (by omega) (by omega)]; omega
        have y3 : isH (mk (kd (ks i)) (ks i)) := by unfold isH; rw [y1]; rcases c5 _ d1 with z | z; exact absurd z d2; omega
        have gy : GT n ow kd P (h (ks i + j)) := by
          have := (HP_bk (P := P) x2 y3 (Or.inr ⟨y3, by rw [va_mk (by omega) (by omega)]; omega, by rw [y2]; exact hkn, by rw [y2]; rcases c5 _ d1 with z | z; exact absurd z d2; exact z.2.2.1, by rw [y2, y1]⟩)).2 j hpj (by show j < bs h kd (ks i); omega)
          rw [y2] at this
          exact this
        rw [raw]
        refine ok_bnd.mpr (ok_mono (carried_ok (N := N) x2 x3 (show p < 25 by omega) ehp gy v2c hN) (fun w2 r hq => ?_))
        obtain ⟨q1, q2, q3, q4, q5, U2, C2, ow3, kd3, ks2, k1, k2, k3, k4, gc⟩ := hq
        rw [ck_t, lt_e, wj_e, lit1, I_add]
        have em : A w2 135 (ks i) = A w 135 (ks i) := q2 _ d1 d2
        have eks : ks2 i = ks i := k4 i hi
        have mv : MV w2 (h (ks i + j)) r := ⟨q3, q4⟩
        have gs := GC_scan gc x3 (k := ks i) (j := j) d1 (by rw [em]; exact d2) (by omega) hpj (by rw [em]; omega) mv
        have f2 : FR [136, 138] [139] [135] [134, 137] w (wj w2 134 sc r) := FR.wj (FR.mo q1 (fun _ z => z) (fun _ z => by cases z) (fun _ z => z) (fun _ z => z)) (by decide)
        have ivn := IV_st (w2 := wj w2 134 sc r) iv' cx' (Nat.le_refl _) (Nat.le_refl _) (Nat.le_refl _) f2 q2 gs k3
        have hdn : HD u p (wj w2 134 sc r) := HD_st hd cx' (q1.2.1 139 (by decide)) q2
        have := ih2 (wj w2 134 sc r) U2 C2 (sc + 1) i (j + 1) ow3 kd3 ks2 ivn hdn (by omega) (by rw [eks]; omega) (by rw [eks]; omega) (by rw [eks]; show A w2 135 (ks i) + _ = _; rw [em]; omega) (by omega)
        rw [eks, show A (wj w2 134 sc r) 135 (ks i) = A w 135 (ks i) from em] at this
        exact this
theorem cl4x (cx : CX u p h n ow kd Fv P opM bnM bxM) (hN : 600 ≤ N) : ∀ (m : Nat) (w : MS) (U C x : Nat) (ow2 kd2 ks : Nat → Nat), IV u p h n ow kd U C 0 ow2 kd2 ks opM bnM x w → w.2.1 139 = u.2.1 139 → x ≤ bxM → (30 - x) + 2200 < m → OK (fun w2 _ => CLRx u p h n ow kd Fv P opM bnM bxM w2) ((gg_M_clear N m).2.2.2.1 w (I p) (I x)) := by
  have cx' := cx
  obtain ⟨x1, x2, x3, x4, x5, x6, x7, x8, x9, x10, x11⟩ := cx
  intro m
  induction m with
  | zero => intro w U C x _ _ _ _ _ _ z; exact absurd z (Nat.not_lt_zero _)
  | succ m ih =>
    intro w U C x ow2 kd2 ks iv eh hx hm
    have ehp := IV_hp iv x1
    have iv' := iv
    obtain ⟨v1, v2, v3, v4, v5, v6⟩ := iv
    show OK _ (fb_M_clear_138 N (gg_M_clear N m) w (I p) (I x))
    unfold fb_M_clear_138
    rw [inb_at (k := 108) (n := 24) rfl (by omega) (by omega) (by decide), ck_t, I_tn (by omega) (by omega), Int.toNat_natCast, I_A' (show A w 108 p = bxM from by rw [FR.A v1 (by decide)]; exact x7.1), decI (by omega) (by omega) (by omega) (by omega)]
    by_cases e : bxM ≤ x
    · have ex : x = bxM := by omega
      subst ex
      have h140 : F w 140 = F u 140 := FR.F v1 (by decide)
      have hr := F_r u 140
      rw [decide_eq_true (by omega), br_t, I_F' h140, decE hr.1 hr.2 (by omega) (by omega)]
      by_cases e2 : F u 140 = p
      · rw [decide_eq_true e2, br_t, eh]
        refine ok_bnd.mpr (ok_mono (carried_ok (N := N) x2 x3 (show p < 25 by omega) ehp (x11 e2) v2 hN) (fun w2 r hq => ?_))
        obtain ⟨q1, q2, q3, q4, q5, U2, C2, ow3, kd3, ks2, k1, k2, k3, k4, gc⟩ := hq
        rw [lt_e, wl_e]
        unfold fb_M_clear_202
        rw [lit0]
        have iv2 := IV_st (w2 := wl w2 139 r) iv' cx' (Nat.le_refl _) (Nat.le_refl _) (Nat.le_refl _) (FR.wl (FR.mo q1 (fun _ z => z) (fun _ z => by cases z) (fun _ z => z) (fun _ z => z)) (by decide)) q2 (GC_wl gc) k3
        exact (cl56x cx' hN m).1 (wl w2 139 r) U2 C2 0 0 ow3 kd3 ks2 iv2 ⟨fun _ => by rw [L_wl, if_pos rfl]; exact ⟨q3, q4⟩, fun z => absurd e2 z⟩ (Nat.zero_le _) (fun z => by have := gc.2.2.2.2.2.1.2 z; exact this) (fun z => by have := gc.2.2.2.2.2.1.1 z.symm; omega) (by omega)
      · rw [decide_eq_false e2, br_f]
        unfold fb_M_clear_202
        rw [lit0]
        exact (cl56x cx' hN m).1 w U C 0 0 ow2 kd2 ks iv' ⟨fun z => absurd z e2, fun _ => eh⟩ (Nat.zero_le _) (fun z => by have := v2.2.2.2.2.2.1.2 z; exact this) (fun z => by have := v2.2.2.2.2.2.1.1 z.symm; omega) (by omega)
    · have e30 : (30 : Int32) = I 30 := rfl
      rw [decide_eq_false (by omega), br_f, e30, I_mul, I_add, inb_at (k := 107) (n := 720) rfl (by omega) (by omega) (by decide), ck_t, I_tn (by omega) (by omega), show ((p : Int) * 30 + (x : Int)).toNat = 30 * p + x from by omega, ((v6 (30 * p + x)).2 (by omega))]
      refine ok_bnd.mpr (ok_mono (carried_ok (N := N) x2 x3 (show p < 25 by omega) ehp (x10 x (by omega)) v2 hN) (fun w2 r hq => ?_))
      obtain ⟨q1, q2, q3, q4, q5, U2, C2, ow3, kd3, ks2, k1, k2, k3, k4, gc⟩ := hq
      rw [ck_t, lt_e, wj_e, lit1, I_add]
      have iv2 := IV_st (w2 := w2) iv' cx' (Nat.le_refl _) (Nat.le_refl _) hx (FR.mo q1 (fun _ z => z) (fun _ z => by cases z) (fun _ z => z) (fun _ z => z)) q2 gc k3
      obtain ⟨t1, t2, t3, t4, t5, t6⟩ := iv2
      refine ih (wj w2 107 (30 * p + x) r) U2 C2 (x + 1) ow3 kd3 ks2 ⟨FR.wj t1 (by decide), GC_wj gc (by decide) (by decide), k3, RM_st t4 x3 x8 (fun _ _ _ => rfl) (wj_ne (by decide)), RM_st t5 x3 x9 (fun _ _ _ => rfl) (wj_ne (by decide)), RM_step t6 ⟨q3, q4⟩⟩ (by show w2.2.1 139 = _; rw [q1.2.1 139 (by decide)]; exact eh) (by omega) (by omega)

theorem cl3x (cx : CX u p h n ow kd Fv P opM bnM bxM) (hN : 600 ≤ N) : ∀ (m : Nat) (w : MS) (U C x : Nat) (ow2 kd2 ks : Nat → Nat), IV u p h n ow kd U C 0 ow2 kd2 ks opM x 0 w → w.2.1 139 = u.2.1 139 → x ≤ bnM → (2500 - x) + 2300 < m → OK (fun w2 _ => CLRx u p h n ow kd Fv P opM bnM bxM w2) ((gg_M_clear N m).2.2.1 w (I p) (I x)) := by
  have cx' := cx
  obtain ⟨x1, x2, x3, x4, x5, x6, x7, x8, x9, x10, x11⟩ := cx
  intro m
  induction m with
  | zero => intro w U C x _ _ _ _ _ _ z; exact absurd z (Nat.not_lt_zero _)
  | succ m ih =>
    intro w U C x ow2 kd2 ks iv eh hx hm
    have ehp := IV_hp iv x1
    have iv' := iv
    obtain ⟨v1, v2, v3, v4, v5, v6⟩ := iv
    show OK _ (fb_M_clear_91 N (gg_M_clear N m) w (I p) (I x))
    unfold fb_M_clear_91
    rw [inb_at (k := 94) (n := 24) rfl (by omega) (by omega) (by decide), ck_t, I_tn (by omega) (by omega), Int.toNat_natCast, I_A' (show A w 94 p = bnM from by rw [FR.A v1 (by decide)]; exact x6.1), decI (by omega) (by omega) (by omega) (by omega)]
    by_cases e : bnM ≤ x
    · have ex : x = bnM := by omega
      subst ex
      rw [decide_eq_true (by omega), br_t, lit0]
      exact cl4x cx' hN m w U C 0 ow2 kd2 ks iv' eh (Nat.zero_le _) (by omega)
    · have eS : (2500 : Int32) = I 2500 := rfl
      rw [decide_eq_false (by omega), br_f, eS, I_mul, I_add, inb_at (k := 93) (n := 60000) rfl (by omega) (by omega) (by decide), ck_t, I_tn (by omega) (by omega), show ((p : Int) * 2500 + (x : Int)).toNat = 2500 * p + x from by omega, ((v5 (2500 * p + x)).2 (by omega))]
      refine ok_bnd.mpr (ok_mono (carried_ok (N := N) x2 x3 (show p < 25 by omega) ehp (x9 x (by omega)) v2 hN) (fun w2 r hq => ?_))
      obtain ⟨q1, q2, q3, q4, q5, U2, C2, ow3, kd3, ks2, k1, k2, k3, k4, gc⟩ := hq
      rw [ck_t, lt_e, wj_e, lit1, I_add]
      have iv2 := IV_st (w2 := w2) iv' cx' (Nat.le_refl _) hx (Nat.zero_le _) (FR.mo q1 (fun _ z => z) (fun _ z => by cases z) (fun _ z => z) (fun _ z => z)) q2 gc k3
      obtain ⟨t1, t2, t3, t4, t5, t6⟩ := iv2
      refine ih (wj w2 93 (2500 * p + x) r) U2 C2 (x + 1) ow3 kd3 ks2 ⟨FR.wj t1 (by decide), GC_wj gc (by decide) (by decide), k3, RM_st t4 x3 x8 (fun _ _ _ => rfl) (wj_ne (by decide)), RM_step t5 ⟨q3, q4⟩, RM_st (n := n) (ow := ow) (kd := kd) (P := P) t6 x3 (fun i hi => by omega) (fun _ _ _ => rfl) (wj_ne (by decide))⟩ (by show w2.2.1 139 = _; rw [q1.2.1 139 (by decide)]; exact eh) (by omega) (by omega)

theorem cl2x (cx : CX u p h n ow kd Fv P opM bnM bxM) (hN : 600 ≤ N) : ∀ (m : Nat) (w : MS) (U C x : Nat) (ow2 kd2 ks : Nat → Nat), IV u p h n ow kd U C 0 ow2 kd2 ks x 0 0 w → w.2.1 139 = u.2.1 139 → x ≤ opM → (46000 - x) + 4900 < m → OK (fun w2 _ => CLRx u p h n ow kd Fv P opM bnM bxM w2) ((gg_M_clear N m).2.1 w (I p) (I x)) := by
  have cx' := cx
  obtain ⟨x1, x2, x3, x4, x5, x6, x7, x8, x9, x10, x11⟩ := cx
  intro m
  induction m with
  | zero => intro w U C x _ _ _ _ _ _ z; exact absurd z (Nat.not_lt_zero _)
  | succ m ih =>
    intro w U C x ow2 kd2 ks iv eh hx hm
    have ehp := IV_hp iv x1
    have iv' := iv
    obtain ⟨v1, v2, v3, v4, v5, v6⟩ := iv
    show OK _ (fb_M_clear_44 N (gg_M_clear N m) w (I p) (I x))
    unfold fb_M_clear_44
    rw [inb_at (k := 92) (n := 24) rfl (by omega) (by omega) (by decide), ck_t, I_tn (by omega) (by omega), Int.toNat_natCast, I_A' (show A w 92 p = opM from by rw [FR.A v1 (by decide)]; exact x5.1), decI (by omega) (by omega) (by omega) (by omega)]
    by_cases e : opM ≤ x
    · have ex : x = opM := by omega
      subst ex
      rw [decide_eq_true (by omega), br_t, lit0]
      exact cl3x cx' hN m w U C 0 ow2 kd2 ks iv' eh (Nat.zero_le _) (by omega)
    · have eS : (46000 : Int32) = I 46000 := rfl
      rw [decide_eq_false (by omega), br_f, eS, I_mul, I_add, inb_at (k := 91) (n := 1104000) rfl (by omega) (by omega) (by decide), ck_t, I_tn (by omega) (by omega), show ((p : Int) * 46000 + (x : Int)).toNat = 46000 * p + x from by omega, ((v4 (46000 * p + x)).2 (by omega))]
      refine ok_bnd.mpr (ok_mono (carried_ok (N := N) x2 x3 (show p < 25 by omega) ehp (x8 x (by omega)) v2 hN) (fun w2 r hq => ?_))
      obtain ⟨q1, q2, q3, q4, q5, U2, C2, ow3, kd3, ks2, k1, k2, k3, k4, gc⟩ := hq
      rw [ck_t, lt_e, wj_e, lit1, I_add]
      have iv2 := IV_st (w2 := w2) iv' cx' hx (Nat.zero_le _) (Nat.zero_le _) (FR.mo q1 (fun _ z => z) (fun _ z => by cases z) (fun _ z => z) (fun _ z => z)) q2 gc k3
      obtain ⟨t1, t2, t3, t4, t5, t6⟩ := iv2
      refine ih (wj w2 91 (46000 * p + x) r) U2 C2 (x + 1) ow3 kd3 ks2 ⟨FR.wj t1 (by decide), GC_wj gc (by decide) (by decide), k3, RM_step t4 ⟨q3, q4⟩, RM_st (n := n) (ow := ow) (kd := kd) (P := P) t5 x3 (fun i hi => by omega) (fun _ _ _ => rfl) (wj_ne (by decide)), RM_st (n := n) (ow := ow) (kd := kd) (P := P) t6 x3 (fun i hi => by omega) (fun _ _ _ => rfl) (wj_ne (by decide))⟩ (by show w2.2.1 139 = _; rw [q1.2.1 139 (by decide)]; exact eh) (by omega) (by omega)

theorem cl1x (cx : CX u p h n ow kd Fv P opM bnM bxM) (hN : 600 ≤ N) : ∀ (m x : Nat) (w : MS), FR [136, 138] [] [90, 135] [] u w → F w 136 = 0 → F w 138 = 0 → (∀ k, k < x → A w 135 k = -1) → x ≤ 500 → (500 - x) + 51000 < m → OK (fun w2 _ => CLRx u p h n ow kd Fv P opM bnM bxM w2) ((gg_M_clear N m).1 w (I p) (I x)) := by
  intro m
  induction m with
  | zero => intro x w _ _ _ _ _ z; exact absurd z (Nat.not_lt_zero _)
  | succ m ih =>
    intro x w f1 f2 f3 f4 hx hm
    show OK _ (fb_M_clear_22 N (gg_M_clear N m) w (I p) (I x))
    unfold fb_M_clear_22
    rw [lit500, decI (by omega) (by omega) (by omega) (by omega)]
    by_cases e : 500 ≤ x
    · rw [decide_eq_true (by omega), br_t, lit0]
      have gc : GC h n ow kd w 0 0 0 (fun _ => 0) (fun _ => 0) (fun _ => 0) := by
        refine ⟨⟨f2, f3, Nat.le_refl _, Nat.le_refl _⟩, fun k hk => Or.inl (f4 k (by omega)), fun k hk z => absurd (f4 k (by omega)) z, Nat.zero_le _, fun i hi => absurd hi (Nat.not_lt_zero _), ⟨fun _ => rfl, fun z => absurd z (Nat.not_lt_zero _)⟩, fun k hk z => absurd (f4 k (by omega)) z, fun k hk z => absurd (f4 k (by omega)) z⟩
      refine cl2x cx hN m w 0 0 0 _ _ _ ⟨FR.mo f1 (fun _ z => z) (fun _ z => by cases z) (fun _ z => z) (fun _ z => by cases z), gc, by omega, RM_0 (f1.2.2.2 91 (by decide)), RM_0 (f1.2.2.2 93 (by decide)), RM_0 (f1.2.2.2 107 (by decide))⟩ (f1.2.1 139 (by decide)) (Nat.zero_le _) (by omega)
    · rw [decide_eq_false (by omega), br_f, inb_at (k := 135) (n := 500) rfl (by omega) (by omega) (by decide), ck_t, lt_e, I_tn (by omega) (by omega), Int.toNat_natCast, litm1, wa_e, lit1, I_add]
      refine ih (x + 1) (wa w 135 x (-1)) (FR.wa f1 (by decide)) f2 f3 (fun k hk => ?_) (by omega) (by omega)
      rw [A_wa (by omega) (by omega), if_pos rfl]
      by_cases e2 : k = x
      · rw [if_pos e2]
      · rw [if_neg e2]; exact f4 k (by omega)
theorem clear_x (cx : CX u p h n ow kd Fv P opM bnM bxM) (hN : 60000 ≤ N) : OK (fun w2 _ => CLRx u p h n ow kd Fv P opM bnM bxM w2) (fm_M_clear N u (I p)) := by
  have x4 := cx.2.2.2.1
  unfold fm_M_clear fb_M_clear_0
  rw [inb_at (k := 90) (n := 24) rfl (by omega) (by omega) (by decide), ck_t, ck_t, lt_e, I_tn (by omega) (by omega), Int.toNat_natCast, I_A, lit1, I_add, wa_e, lt_e, lit0, wi_e, lt_e, wi_e]
  exact cl1x cx (by omega) N 0 _ (FR.wi (FR.wi (FR.wa FR.rf (by decide)) (by decide)) (by decide)) (by rw [F_wi (by omega) (by omega), if_neg (by decide), F_wi (by omega) (by omega), if_pos rfl]) (by rw [F_wi (by omega) (by omega), if_pos rfl]) (fun k hk => absurd hk (Nat.not_lt_zero _)) (by omega) (by omega)
end
