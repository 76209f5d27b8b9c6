section
variable {h : Nat → Int64} {n p N U C sc opM bnM bxM : Nat} {ow kd ow2 kd2 ks : Nat → Nat} {Fv : Int64 → Int64 → Prop} {P : Int64 → Prop} {u w : MS}
theorem GC_bp (c : GC h n ow kd w U C sc ow2 kd2 ks) (hn : n ≤ 500) {k : Nat} (hk : k < 500) (hm : A w 135 k ≠ -1) : 0 < bs h kd k ∧ pk kd k ≤ bs h kd k ∧ 0 ≤ A w 135 k := by
  rcases c.2.1 k hk with z | ⟨z1, z2, z3, z4⟩
  · exact absurd z hm
  · have y1 : so (mk (kd k) k) = kd k := so_mk (by omega) (by omega)
    have y2 : isH (mk (kd k) k) := by unfold isH; rw [y1]; omega
    exact ⟨blk_pos y2, prt_le y2, z1⟩
theorem GC_mono (c : GC h n ow kd w U C sc ow2 kd2 ks) (hn : n ≤ 500) : ∀ d i, i + d + 1 < C → A w 135 (ks i) + bs h kd (ks i) ≤ A w 135 (ks (i + d + 1)) := by
  intro d
  induction d with
  | zero => intro i hi; have := (c.2.2.2.2.1 i (by omega)).2.2.2.2.1 (by omega); rw [show i + 0 + 1 = i + 1 from rfl]; omega
  | succ d ih =>
    intro i hi
    have a := ih i (by omega)
    obtain ⟨b1, b2, -, -, b5, -⟩ := c.2.2.2.2.1 (i + d + 1) (by omega)
    have := b5 (by omega)
    have := (GC_bp c hn b1 b2).1
    rw [show i + (d + 1) + 1 = i + d + 1 + 1 from by omega]
    omega
theorem GC_inj (c : GC h n ow kd w U C sc ow2 kd2 ks) (hn : n ≤ 500) {k k2 j j2 : Nat} (hk : k < 500) (hm : A w 135 k ≠ -1) (hk2 : k2 < 500) (hm2 : A w 135 k2 ≠ -1) (hj : j < bs h kd k) (hj2 : j2 < bs h kd k2) (e : (A w 135 k).toNat + j = (A w 135 k2).toNat + j2) : k = k2 ∧ j = j2 := by
  have o1 := (c.2.2.1 k hk hm).2.2 j hj
  have o2 := (c.2.2.1 k2 hk2 hm2).2.2 j2 hj2
  rw [e, o2] at o1
  obtain ⟨i, i1, i2⟩ := c.2.2.2.2.2.2.1 k hk hm
  obtain ⟨i', i1', i2'⟩ := c.2.2.2.2.2.2.1 k2 hk2 hm2
  have p1 := GC_bp c hn hk hm
  have p2 := GC_bp c hn hk2 hm2
  have ee : i = i' := by
    rcases Nat.lt_trichotomy i i' with q | q | q
    · have := GC_mono c hn (i' - i - 1) i (by omega)
      rw [show i + (i' - i - 1) + 1 = i' from by omega, i2, i2'] at this
      omega
    · exact q
    · have := GC_mono c hn (i - i' - 1) i' (by omega)
      rw [show i' + (i - i' - 1) + 1 = i from by omega, i2, i2'] at this
      omega
  subst ee
  have : k = k2 := i2.symm.trans i2'
  exact ⟨this, by omega⟩
theorem GC_sc {s2 : Nat} (c : GC h n ow kd w U C sc ow2 kd2 ks) (h1 : sc ≤ s2) (h2 : s2 ≤ U) (hc : ∀ k j, k < 500 → A w 135 k ≠ -1 → j < bs h kd k → sc ≤ (A w 135 k).toNat + j → (A w 135 k).toNat + j < s2 → ¬ pk kd k ≤ j) : GC h n ow kd w U C s2 ow2 kd2 ks := by
  obtain ⟨⟨c1, c2, c3, c4⟩, c5, c6, c7, c8, c9, c11, c12⟩ := c
  refine ⟨⟨c1, c2, c3, h2⟩, c5, c6, c7, c8, c9, c11, fun k hk hm j hj => ?_⟩
  obtain ⟨y1, y2⟩ := c12 k hk hm j hj
  refine ⟨fun z => y1 ⟨?_, z.2⟩, fun z => y2 (fun z2 => z ⟨by omega, z2.2⟩)⟩
  exact Nat.lt_of_not_le (fun q => hc k j hk hm hj q z.1 z.2.1)
theorem GC_scan {k j : Nat} {x : Int64} (c : GC h n ow kd w U C sc ow2 kd2 ks) (hn : n ≤ 500) (hk : k < 500) (hm : A w 135 k ≠ -1) (hj : j < bs h kd k) (hpj : pk kd k ≤ j) (es : (A w 135 k).toNat + j = sc) (mv : MV w (h (k + j)) x) : GC h n ow kd (wj w 134 sc x) U C (sc + 1) ow2 kd2 ks := by
  have c' := c
  obtain ⟨⟨c1, c2, c3, c4⟩, c5, c6, c7, c8, c9, c11, c12⟩ := c
  have hb := (c6 k hk hm).1
  refine ⟨⟨c1, c2, c3, by omega⟩, c5, c6, c7, fun i hi => ?_, c9, c11, fun k2 hk2 hm2 j2 hj2 => ?_⟩
  · rw [J_wj, if_neg (by decide)]; exact c8 i hi
  · have hm2 : A w 135 k2 ≠ -1 := hm2
    show ((A w 135 k2).toNat + j2 < sc + 1 ∧ pk kd k2 ≤ j2 ∧ isH (h (k2 + j2)) → A w 135 (vn (h (k2 + j2))) ≠ -1 ∧ (wj w 134 sc x).2.2.2 134 ((A w 135 k2).toNat + j2) = fw w (h (k2 + j2))) ∧ (¬ ((A w 135 k2).toNat + j2 < sc + 1 ∧ pk kd k2 ≤ j2 ∧ isH (h (k2 + j2))) → (wj w 134 sc x).2.2.2 134 ((A w 135 k2).toNat + j2) = h (k2 + j2))
    rw [J_wj, if_pos rfl]
    by_cases e : (A w 135 k2).toNat + j2 = sc
    · obtain ⟨e1, e2⟩ := GC_inj c' hn hk2 hm2 hk hm hj2 hj (by omega)
      subst e1; subst e2
      rw [if_pos e]
      refine ⟨fun z => mv.2 z.2.2, fun z => ?_⟩
      by_cases hy : isH (h (k2 + j2))
      · exact absurd ⟨by omega, hpj, hy⟩ z
      · exact mv.1 hy
    · rw [if_neg e]
      obtain ⟨y1, y2⟩ := c12 k2 hk2 hm2 j2 hj2
      exact ⟨fun z => y1 ⟨by omega, z.2⟩, fun z => y2 (fun z2 => z ⟨by omega, z2.2⟩)⟩
theorem cl56 (cx : CX u p h n ow kd Fv P opM bnM bxM) (hN : 600 ≤ N) : ∀ (m : Nat),
    (∀ (w : MS) (U C sc i : Nat) (ow2 kd2 ks : Nat → Nat), IV u p h n ow kd U C sc ow2 kd2 ks opM bnM bxM w → HD u p w → i ≤ C → (i < C → A w 135 (ks i) = sc) → (i = C → sc = U) → (500 - sc) + 2 * (500 - i) + 600 < m → OK (fun w2 _ => CLR u p h n ow kd Fv P opM bnM bxM w2) ((gg_M_clear N m).2.2.2.2.1 w (I p) (I i))) ∧
    (∀ (w : MS) (U C sc i j : Nat) (ow2 kd2 ks : Nat → Nat), IV u p h n ow kd U C sc ow2 kd2 ks opM bnM bxM w → HD u p w → i < C → pk kd (ks i) ≤ j → j ≤ bs h kd (ks i) → A w 135 (ks i) + j = sc → (500 - sc) + 2 * (500 - i) + 599 < m → OK (fun w2 _ => CLR u p h n ow kd Fv P opM bnM bxM w2) ((gg_M_clear N m).2.2.2.2.2.1 w (I p) (I i) (I (A w 135 (ks i))) (I (bs h kd (ks i))) (I j))) := by
  have cx' := cx
  obtain ⟨x1, x2, x3, x4, x5, x6, x7, x8, x9, x10, x11⟩ := cx
  intro m
  induction m with
  | zero => exact ⟨fun w U C sc i _ _ _ _ _ _ _ _ z => absurd z (Nat.not_lt_zero _), fun w U C sc i j _ _ _ _ _ _ _ _ _ z => absurd z (Nat.not_lt_zero _)⟩
  | succ m ih =>
    obtain ⟨ih1, ih2⟩ := ih
    refine ⟨fun w U C sc i ow2 kd2 ks iv hd hi hs1 hs2 hm => ?_, fun w U C sc i j ow2 kd2 ks iv hd hi hpj hj hsc hm => ?_⟩
    · have ehp := IV_hp iv x1
      obtain ⟨v1, v2, v3, v4, v5, v6⟩ := iv
      have v2c := v2
      obtain ⟨⟨c1, c2, c3, c4⟩, c5, c6, c7, c8, c9, c11, c12⟩ := v2
      show OK _ (fb_M_clear_204 N (gg_M_clear N m) w (I p) (I i))
      unfold fb_M_clear_204
      rw [I_F' c2, decI (by omega) (by omega) (by omega) (by omega)]
      by_cases e : C ≤ i
      · have es : sc = U := hs2 (by omega)
        subst es
        rw [decide_eq_true (by omega), br_tq, inb_at (k := 89) (n := 25) rfl (by omega) (by omega) (by decide), ck_t, lt_e, I_tn (by omega) (by omega), Int.toNat_natCast, I_F' c1, wa_e, lit0q]
        refine ok_mono (cl7 (w0 := wa w 89 p sc) x4 v3 m 0 (wa w 89 p sc) (by omega) (by omega) c1 (fun j hj => absurd hj (Nat.not_lt_zero _)) FR.rf (fun _ _ => rfl)) (fun w2 _ ⟨q1, q2, q3⟩ => ?_)
        have e134 : w2.2.2.2 134 = w.2.2.2 134 := q1.2.2.2 134 (by decide)
        obtain ⟨fd, R, r1, r2, r3, r4, r5⟩ := GC_fin (P := P) x2 x3 v2c (hp w2 p) (fun i hi => by rw [q2 i hi, e134])
        have eJ : ∀ K, K ≠ 88 → w2.2.2.2 K = w.2.2.2 K := fun K hK => q1.2.2.2 K (by simp [hK])
        refine ⟨sc, ow2, kd2, fd, R, r1, r2, r3, Nat.le_trans c7 (cnt_le n), fun q => ?_, ?_, fun i hi => ?_, RM_fd v4 x8 r1.1 r4 r5 (eJ 91 (by decide)), RM_fd v5 x9 r1.1 r4 r5 (eJ 93 (by decide)), RM_fd v6 x10 r1.1 r4 r5 (eJ 107 (by decide)), fun z => ?_, fun z => ?_⟩
        · rw [FR.A q1 (by decide), A_wa (by omega) (by omega), if_pos rfl, FR.A v1 (by decide)]
        · have f0 : FR [136, 138] [139] [89, 90, 135] [88, 91, 93, 107, 134, 137] u w := FR.mo v1 (fun _ z => z) (fun _ z => z) (fun k z => List.mem_cons_of_mem _ z) (fun k z => List.mem_cons_of_mem _ z)
          refine FR.tr (FR.wa f0 (by decide)) (FR.mo q1 (fun _ z => by cases z) (fun _ z => by cases z) (fun _ z => by cases z) (fun k z => by rw [List.mem_singleton.mp z]; decide))
        · rw [q3 i hi]
          show w.2.2.2 88 i = _
          rw [v1.2.2.2 88 (by decide)]
        · have e1 : w2.2.1 139 = w.2.1 139 := q1.2.1 139 (by decide)
          rw [e1]
          exact MV_fd (hd.1 z) (x11 z) r1.1 r4 r5
        · have e1 : w2.2.1 139 = w.2.1 139 := q1.2.1 139 (by decide)
          rw [e1]
          exact hd.2 z
      · obtain ⟨d1, d2, d3, d4, d5, d6⟩ := c8 i (by omega)
        obtain ⟨p1, p2, p3⟩ := GC_bp v2c x3 d1 d2
        have eU := (c6 _ d1 d2).1
        have esc := hs1 (by omega)
        have cells := c12 _ d1 d2
        rw [decide_eq_false (by omega), br_fq, inb_at (k := 137) (n := 500) rfl (by omega) (by omega) (by decide), ck_t, I_tn (by omega) (by omega), Int.toNat_natCast, valueOf_e, bnd_so, sortOf_e, bnd_so, d4, d3]
        have hkd : kd (ks i) = 3 ∨ kd (ks i) = 5 ∨ kd (ks i) = 7 := by rcases c5 _ d1 with z | z; exact absurd z d2; exact z.2.2.2
        have hkn : ks i < n := by rcases c5 _ d1 with z | z; exact absurd z d2; exact z.2.1
        have y1 : so (mk (kd (ks i)) (ks i)) = kd (ks i) := so_mk (by omega) (by omega)
        have y2 : vn (mk (kd (ks i)) (ks i)) = ks i := by show (va _).toNat = _; rw [va_mk (by omega) (by omega)]; omega
        have y3 : isH (mk (kd (ks i)) (ks i)) := by unfold isH; rw [y1]; omega
        have hso : so (w.2.2.2 137 i) = so (mk (kd (ks i)) (ks i)) := by rw [d3, y1]
        have hH : isH (w.2.2.2 137 i) := by unfold isH; rw [hso]; exact y3
        have hp0 : prt (w.2.2.2 137 i) = pk kd (ks i) := prt_so hso
        have go : ∀ t0 : Int32, t0 = I (bs h kd (ks i)) → OK (fun w2 _ => CLR u p h n ow kd Fv P opM bnM bxM w2) (fb_M_clear_273 N (gg_M_clear N m) w (I p) (I i) (w.2.2.2 137 i) (I (A w 135 (ks i))) t0) := by
          intro t0 ht0
          subst ht0
          unfold fb_M_clear_273
          rw [partsFrom_e hH, bnd_so, hp0]
          have gsc : GC h n ow kd w U C (sc + pk kd (ks i)) ow2 kd2 ks := GC_sc v2c (by omega) (by omega) (fun k2 j2 a1 a2 a3 a4 a5 => by
            obtain ⟨e1, e2⟩ := GC_inj v2c x3 a1 a2 d1 d2 a3 (j2 := (A w 135 k2).toNat + j2 - sc) (by omega) (by omega)
            subst e1
            omega)
          exact ih2 w U C (sc + pk kd (ks i)) i (pk kd (ks i)) ow2 kd2 ks ⟨v1, gsc, v3, v4, v5, v6⟩ hd (by omega) (Nat.le_refl _) p2 (by omega) (by omega)
        have hr := A_r w 135 (ks i)
        have cl5 : (7 : Int32) = I 7 := rfl
        have cl6 : (5 : Int32) = I 5 := rfl
        have ebk : (bs h kd (ks i) : Int) = blk h (mk (kd (ks i)) (ks i)) := rfl
        rw [cl5, cl6, decE (by omega) (by omega) (by omega) (by omega), decE (by omega) (by omega) (by omega) (by omega)]
        have bkk := (HP_bk (P := P) x2 y3 (Or.inr ⟨y3, by rw [va_mk (by omega) (by omega)]; omega, by rw [y2]; exact hkn, by rw [y2]; rcases c5 _ d1 with z | z; exact absurd z d2; exact z.2.2.1, by rw [y2, y1]⟩)).1
        rcases hkd with e3 | e5 | e7
        · have eb2 : bs h kd (ks i) = 2 + vn (h (ks i + 1)) := by show blk h (mk (kd (ks i)) (ks i)) = _; unfold blk; rw [y1, y2, e3]; rfl
          have b30 : 0 ≤ va (h (ks i + 1)) := by have := (bkk.2.2.1 (by rw [y1, e3]; rfl)).1; rw [y2] at this; exact this
          have ep2 : pk kd (ks i) = 2 := by show prt (mk (kd (ks i)) (ks i)) = _; unfold prt; rw [y1, e3]; rfl
          rw [e3, decide_eq_false (by decide), br_fq, decide_eq_false (by decide), br_fq, lit1q, I_add, inb_at (k := 134) (n := 500) rfl (by omega) (by omega) (by decide), ck_t, I_tn (by omega) (by omega), show (A w 135 (ks i) + 1).toNat = (A w 135 (ks i)).toNat + 1 from by omega, (cells 1 (by omega)).2 (fun z => by omega)]
          refine go _ ?_
          rw [I_of (h (ks i + 1)).toInt32, show (2 : Int32) = I 2 from rfl, I_add]
          congr 1
          show (2 : Int) + va (h (ks i + 1)) = _
          unfold vn at eb2
          omega
        · have eb2 : bs h kd (ks i) = 1 + vn (h (ks i)) := by show blk h (mk (kd (ks i)) (ks i)) = _; unfold blk; rw [y1, y2, e5]; rfl
          have b20 : 0 ≤ va (h (ks i)) := by have := (bkk.2.1 (by rw [y1, e5]; rfl)).1; rw [y2] at this; exact this
          have ep2 : pk kd (ks i) = 1 := by show prt (mk (kd (ks i)) (ks i)) = _; unfold prt; rw [y1, e5]; rfl
          have c0 := (cells 0 (by omega)).2 (fun z => by omega)
          rw [show (A w 135 (ks i)).toNat + 0 = (A w 135 (ks i)).toNat from rfl, show ks i + 0 = ks i from rfl] at c0
          rw [e5, decide_eq_false (by decide), br_fq, decide_eq_true (by decide), br_tq, inb_at (k := 134) (n := 500) rfl (by omega) (by omega) (by decide), ck_t, I_tn (by omega) (by omega), c0]
          refine go _ ?_
          rw [I_of (h (ks i)).toInt32, lit1q, I_add]
          congr 1
          show (1 : Int) + va (h (ks i)) = _
          unfold vn at eb2
          omega
        · have eb2 : bs h kd (ks i) = 2 := by show blk h (mk (kd (ks i)) (ks i)) = _; unfold blk; rw [y1, e7]; rfl
          rw [e7, decide_eq_true (by decide), br_tq]
          refine go _ ?_
          rw [eb2]; rfl
    · have ehp := IV_hp iv x1
      have iv' := iv
      obtain ⟨v1, v2, v3, v4, v5, v6⟩ := iv
      have v2c := v2
      obtain ⟨⟨c1, c2, c3, c4⟩, c5, c6, c7, c8, c9, c11, c12⟩ := v2
      obtain ⟨d1, d2, d3, d4, d5, d6⟩ := c8 i hi
      obtain ⟨p1, p2, p3⟩ := GC_bp v2c x3 d1 d2
      have eU := (c6 _ d1 d2).1
      have hr := A_r w 135 (ks i)
      show OK _ (fb_M_clear_281 N (gg_M_clear N m) w (I p) (I i) (I (A w 135 (ks i))) (I (bs h kd (ks i))) (I j))
      unfold fb_M_clear_281
      rw [decI (by omega) (by omega) (by omega) (by omega)]
      by_cases e : bs h kd (ks i) ≤ j
      · rw [decide_eq_true (by omega), br_tq, lit1q, I_add]
        refine ih1 w U C sc (i + 1) ow2 kd2 ks iv' hd (by omega) (fun z => by have := d5 z; omega) (fun z => by have := d6 z; omega) (by omega)
      · rw [decide_eq_false (by omega), br_fq, I_add, inb_at (k := 134) (n := 500) rfl (by omega) (by omega) (by decide), ck_t, I_tn (by omega) (by omega), show (A w 135 (ks i) + (j : Int)).toNat = sc from by omega]
        have raw : w.2.2.2 134 sc = h (ks i + j) := by
          have := (c12 _ d1 d2 j (by omega)).2 (fun z => by omega)
          rw [show (A w 135 (ks i)).toNat + j = sc from by omega] at this
          exact this
        have hkn : ks i < n := by rcases c5 _ d1 with z | z; exact absurd z d2; exact z.2.1
        have hkd : kd (ks i) = 3 ∨ kd (ks i) = 5 ∨ kd (ks i) = 7 := by rcases c5 _ d1 with z | z; exact absurd z d2; exact z.2.2.2
        have y1 : so (mk (kd (ks i)) (ks i)) = kd (ks i) := so_mk (by omega) (by omega)
        have y2 : vn (mk (kd (ks i)) (ks i)) = ks i := by show (va _).toNat = _; rw [va_mk (by omega) (by omega)]; omega
        have y3 : isH (mk (kd (ks i)) (ks i)) := by unfold isH; rw [y1]; rcases c5 _ d1 with z | z; exact absurd z d2; omega
        have gy : GT n ow kd P (h (ks i + j)) := by
          have := (HP_bk (P := P) x2 y3 (Or.inr ⟨y3, by rw [va_mk (by omega) (by omega)]; omega, by rw [y2]; exact hkn, by rw [y2]; rcases c5 _ d1 with z | z; exact absurd z d2; exact z.2.2.1, by rw [y2, y1]⟩)).2 j hpj (by show j < bs h kd (ks i); omega)
          rw [y2] at this
          exact this
        rw [raw]
        refine ok_bnd.mpr (ok_mono (carried_ok (N := N) x2 x3 (show p < 25 by omega) ehp gy v2c hN) (fun w2 r hq => ?_))
        obtain ⟨q1, q2, q3, q4, q5, U2, C2, ow3, kd3, ks2, k1, k2, k3, k4, gc⟩ := hq
        rw [ck_t, lt_e, wj_e, lit1q, I_add]
        have em : A w2 135 (ks i) = A w 135 (ks i) := q2 _ d1 d2
        have eks : ks2 i = ks i := k4 i hi
        have mv : MV w2 (h (ks i + j)) r := ⟨q3, q4⟩
        have gs := GC_scan gc x3 (k := ks i) (j := j) d1 (by rw [em]; exact d2) (by omega) hpj (by rw [em]; omega) mv
        have f2 : FR [136, 138] [139] [135] [134, 137] w (wj w2 134 sc r) := FR.wj (FR.mo q1 (fun _ z => z) (fun _ z => by cases z) (fun _ z => z) (fun _ z => z)) (by decide)
        have ivn := IV_st (w2 := wj w2 134 sc r) iv' cx' (Nat.le_refl _) (Nat.le_refl _) (Nat.le_refl _) f2 q2 gs k3
        have hdn : HD u p (wj w2 134 sc r) := HD_st hd cx' (q1.2.1 139 (by decide)) q2
        have := ih2 (wj w2 134 sc r) U2 C2 (sc + 1) i (j + 1) ow3 kd3 ks2 ivn hdn (by omega) (by rw [eks]; omega) (by rw [eks]; omega) (by rw [eks]; show A w2 135 (ks i) + _ = _; rw [em]; omega) (by omega)
        rw [eks, show A (wj w2 134 sc r) 135 (ks i) = A w 135 (ks i) from em] at this
        exact this
end
