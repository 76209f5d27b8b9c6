/-! numbers -/
set_option maxRecDepth 100000
section
variable {α β : Type} {b : Int → Nat → Nat → Prop} {N p k l U B W Y j a n : Nat} {m w m2 w2 m3 w3 : MS} {t x : Int64} {nb : Nat → Nat} {Hs Os : Nat → List Nat} {y : Option (Nat × Nat × Nat)} {Q : MS → α → MS → β → Prop} {K1 : MS → Option (MS × α)} {K2 : MS → Option (MS × β)} {v s o kk : Int}
theorem one_6 : fm_M_one N w (I v) (I 6) = bnd (fm_M_goTo N w (I v + 1)) (fun u7 _ => ck (inb (I v) (ln 25)) (bnd (fm_M_twoRun N u7 (u7.2.2.1 25 (I v).toNatClampNeg)) (fun u21 _ => some (u21, ())))) := rfl
theorem val_m : fm_M_valueOf N w t = some (w, t.toInt32) := rfl
theorem two_ar {s : Int} (h : s = 18 ∨ s = 19 ∨ s = 20 ∨ s = 105 ∨ s = 113) : fm_M_twoRun N w (I s) = bnd (fm_M_take N w) (fun u7 r7 => bnd (fm_M_take N u7) (fun u8 r8 => bnd (fm_M_sortOf N u8 r8) (fun u9 r9 => br (decide (r9 = 0)) (bnd (fm_M_sortOf N u9 r7) (fun u10 r10 => br (decide (r10 = 0)) (br (decide (I s < 100)) (fb_M_twoRun_219 N () u10 (I s) r7 r8) (bnd (fm_M_valueOf N u10 r7) (fun u11 r11 => br (decide (r11 = 0)) (fb_M_twoRun_212 N () u11) (fb_M_twoRun_219 N () u11 (I s) r7 r8)))) (fb_M_twoRun_212 N () u10))) (fb_M_twoRun_212 N () u9)))) := by
  rcases h with rfl | rfl | rfl | rfl | rfl <;> rfl
theorem z64 {z : Int32} : z.toInt64 = 0 ↔ z = 0 := by
  constructor
  · intro h
    have := congrArg Int64.toInt h
    rw [Int32.toInt_toInt64] at this
    exact Int32.toInt_inj.mp this
  · intro h
    rw [h]
    rfl
/-- + - * div rem -/
theorem op_arith (hs : (s = 18 ∧ kk = 33) ∨ (s = 19 ∧ kk = 34) ∨ (s = 20 ∧ kk = 35) ∨ (s = 105 ∧ kk = 10) ∨ (s = 113 ∧ kk = 18)) (hpp : p < 24) (pl : PLs b p m w U B (W + 2) Y) (ru : RUs m w p j nb Hs Os y a n) (hW : W + 2 < 46000) (hl : F m (pq p 45) = ((l : Nat) : Int)) (hl2 : W + 2 ≤ l ∧ l ≤ 1000000) (ha : a + 1 < 24000) (hn : n < 100000) (ht : A m 23 (a + 1) = kk) (hd : A w 25 n = s) (cr : ∃ f, CRs (A m 23) (ROs w) (w.2.2.2 34) f y (a + 2) (n + 1) (Hs j) (Os j))
    (c : ∀ m3 w3, PLs b p m3 w3 U B (W + 1) Y → RUs m3 w3 p j nb Hs Os y (a + 2) (n + 1) → FGm p m m3 → FGw p j w w3 → PP Q (K1 m3) (K2 w3))
    (c0 : PP Q (bnd (hm_Ma_wrong N m p 12) (fun u _ => K1 u)) (bnd (fr_M_error N (wa (wa (wa w 98 (60 * p + j) ((n + 1 : Nat) : Int)) 92 p ((W + 1 : Nat) : Int)) 92 p ((W : Nat) : Int)) 12) (fun u _ => K2 u))) : PP Q (bnd (hm_Ma_value N m p (I 9)) (fun u _ => K1 u)) (bnd (fm_M_one N w (I ((n : Nat) : Int)) (I 6)) (fun u _ => K2 u)) := by
  obtain ⟨⟨fa, ct⟩, ⟨r2, r3⟩, -, ⟨r5, r6⟩, r7, ⟨r8, r9, r10⟩, r11, r12, r13⟩ := id ru
  have hj : j < 60 := fa.1.2.2
  have rt0 := pl.2.2.1.2.2 (W + 1) (by omega)
  have rt1 := pl.2.2.1.2.2 W (by omega)
  have be0 : hm_Fr_below N m p 0 = some (m, m.2.2.2 (pq p 35) (W + 1)) := by
    have := below_e (N := N) (x := 0) (k := 0) (W := W + 2) (l := l) pl.2.2.1.1 hl hl2.1 hl2.2 rfl (by omega)
    rw [show W + 2 - 1 - 0 = W + 1 by omega] at this
    exact this
  have be1 : hm_Fr_below N m p 1 = some (m, m.2.2.2 (pq p 35) W) := by
    have := below_e (N := N) (x := 1) (k := 1) (W := W + 2) (l := l) pl.2.2.1.1 hl hl2.1 hl2.2 rfl (by omega)
    rw [show W + 2 - 1 - 1 = W by omega] at this
    exact this
  have aw : ∀ K i, K ≠ 98 → A (wa w 98 (60 * p + j) ((n + 1 : Nat) : Int)) K i = A w K i := fun K i h => by rw [wa_rne h]
  -- here, up to the two terms
  rw [val9, one_6, show I ((n : Nat) : Int) + 1 = I ((n + 1 : Nat) : Int) from addN, I_F' r2, show I ((a : Nat) : Int) + 1 = I ((a + 1 : Nat) : Int) from addN, Co_e (k := a + 1) rfl ha, bnd_so, ht, bb_e, bb_e]
  refine r_bnd (pk_mo (goto_r (N := N) (n := ((n + 1 : Nat) : Int)) hpp r11 fa.1.2.1 hj) (fun w2 _ h => ?_))
  subst h
  refine rb_ck (fun _ => ?_)
  rw [tnI (n := n) rfl (by omega), I_A' ((aw 25 n (by omega)).trans hd), two_ar (by omega), bb_e, bb_e]
  have h92 : A (wa w 98 (60 * p + j) ((n + 1 : Nat) : Int)) 92 p = ((W + 1 + 1 : Nat) : Int) := by rw [aw 92 p (by omega)]; exact pl.2.2.1.2.1
  refine r_bnd (pk_mo (take_r (N := N) (W := W + 1) (w := wa w 98 (60 * p + j) ((n + 1 : Nat) : Int)) hpp r11 h92 (by omega)) (fun w3 x0 h => ?_))
  obtain ⟨rfl, rfl⟩ := h
  rw [bb_e]
  have h92b : A (wa (wa w 98 (60 * p + j) ((n + 1 : Nat) : Int)) 92 p ((W + 1 : Nat) : Int)) 92 p = ((W + 1 : Nat) : Int) := by rw [wa_sm (by omega) (by omega)]
  refine r_bnd (pk_mo (take_r (N := N) (W := W) (w := wa (wa w 98 (60 * p + j) ((n + 1 : Nat) : Int)) 92 p ((W + 1 : Nat) : Int)) hpp r11 h92b (by omega)) (fun w3 x1 h => ?_))
  obtain ⟨rfl, rfl⟩ := h
  have rt0' : RTb b (m.2.2.2 (pq p 35) (W + 1)) ((wa w 98 (60 * p + j) ((n + 1 : Nat) : Int)).2.2.2 91 (46000 * p + (W + 1))) := rt0
  have rt1' : RTb b (m.2.2.2 (pq p 35) W) ((wa (wa w 98 (60 * p + j) ((n + 1 : Nat) : Int)) 92 p ((W + 1 : Nat) : Int)).2.2.2 91 (46000 * p + W)) := rt1
  generalize (wa w 98 (60 * p + j) ((n + 1 : Nat) : Int)).2.2.2 91 (46000 * p + (W + 1)) = x0 at rt0' ⊢
  generalize (wa (wa w 98 (60 * p + j) ((n + 1 : Nat) : Int)) 92 p ((W + 1 : Nat) : Int)).2.2.2 91 (46000 * p + W) = x1 at rt1' ⊢
  have g3 : FGw p j w (wa (wa (wa w 98 (60 * p + j) ((n + 1 : Nat) : Int)) 92 p ((W + 1 : Nat) : Int)) 92 p ((W : Nat) : Int)) := FGw.tr (FGw.tr FGw.goto FGw.w92) FGw.w92
  have h98 : A (wa (wa (wa w 98 (60 * p + j) ((n + 1 : Nat) : Int)) 92 p ((W + 1 : Nat) : Int)) 92 p ((W : Nat) : Int)) 98 (60 * p + j) = ((n + 1 : Nat) : Int) := by rw [wa_rne (by omega), wa_rne (by omega), wa_sm (by omega) (by omega)]
  have pl2 : PLs b p (wi m (pq p 26) ((W : Nat) : Int)) (wa (wa (wa w 98 (60 * p + j) ((n + 1 : Nat) : Int)) 92 p ((W + 1 : Nat) : Int)) 92 p ((W : Nat) : Int)) U B W Y := by
    have q1 := PLs_drop (k := 1) (W := W + 1) (PLs_98 (i := 60 * p + j) (z := ((n + 1 : Nat) : Int)) pl) (by omega)
    have q2 := PLs_drop (k := 1) (W := W) q1 (by omega)
    exact PLs_cg q2 (fun k hk => by
      show (if pq p k = pq p 26 then _ else m.1 (pq p k)) = (if pq p k = pq p 26 then _ else if pq p k = pq p 26 then _ else m.1 (pq p k))
      by_cases e : pq p k = pq p 26
      · rw [if_pos e, if_pos e]
      · rw [if_neg e, if_neg e, if_neg e]) (fun _ _ => rfl) (fun _ _ => rfl) (fun _ _ => rfl) (fun _ _ => rfl) (fun _ _ => rfl) (fun _ _ => rfl) (fun _ _ => rfl) (fun _ _ => rfl) (fun _ _ => rfl)
  have e5 : F (wi m (pq p 26) ((W : Nat) : Int)) 1105 = ((a : Nat) : Int) := by rw [wi_ne (pq_n (by omega))]; exact r2
  have e45 : F (wi m (pq p 26) ((W : Nat) : Int)) (pq p 45) = ((l : Nat) : Int) := by rw [wi_ne (pq_inj (by omega))]; exact hl
  -- no number comes of it
  have no : PP Q (bnd (hb_Ma_arithmetic_92 N () m p) (fun u _ => bnd (some (u, ())) (fun u _ => K1 u))) (bnd (fb_M_twoRun_212 N () (wa (wa (wa w 98 (60 * p + j) ((n + 1 : Nat) : Int)) 92 p ((W + 1 : Nat) : Int)) 92 p ((W : Nat) : Int))) (fun u _ => bnd (some (u, ())) (fun u _ => K2 u))) := by
    unfold hb_Ma_arithmetic_92 fb_M_twoRun_212
    rw [bb_e, bb_e]
    exact c0
  -- a number, if it is one
  have fin : ∀ z : Int64, PP Q (bnd (hb_Ma_arithmetic_208 N () m p z) (fun u _ => bnd (some (u, ())) (fun u _ => K1 u))) (bnd (fb_M_twoRun_295 N () (wa (wa (wa w 98 (60 * p + j) ((n + 1 : Nat) : Int)) 92 p ((W + 1 : Nat) : Int)) 92 p ((W : Nat) : Int)) z) (fun u _ => bnd (some (u, ())) (fun u _ => K2 u))) := fun z => by
    unfold hb_Ma_arithmetic_208 fb_M_twoRun_295 hm_Ma_number hb_Ma_number_0
    by_cases e : lg_cmp z ((z.toInt32).toInt64) = 0
    · rw [decide_eq_true e, br_t, br_t, valI, lit0, e_make, bnd_so, term_e, bnd_so]
      unfold hm_Ma_answer hb_Ma_answer_0
      rw [show (2 : Int32) = I 2 from rfl, drop_e (W := W + 2) (k := 2) (x := 2) pl.2.2.1.1 rfl (by omega), bnd_so, Nat.add_sub_cancel]
      have ze : mk 0 (va z) = mk 0 (va z) := rfl
      have pp := push_pp (N := N) (a2 := a + 2) (n2 := n + 1) (dz := 2) (l := l) (W := W) (t := mk 0 (va z)) (x := mk 0 (va z)) (Q := Q) (K1 := K1) (K2 := K2) hpp ru ⟨by omega, hl, by omega, hl2.2⟩ (lit_b (by omega) (fun h => by omega) (va_r z)) FGm.drop g3 pl2 e45 r11 h98 e5 rfl (by omega) cr c
      simp only [bb_e, bnd_so] at pp
      simp only [bb_e, bnd_so]
      exact pp
    · rw [decide_eq_false e, br_f, br_f, bb_e, bb_e, bb_e]
      exact c0
  have e32 : hb_Ma_arithmetic_32 N () m p (I kk) = hb_Ma_arithmetic_92 N () m p := by
    unfold hb_Ma_arithmetic_32 hb_Ma_arithmetic_33
    rw [be1, bnd_so, be0, bnd_so]
    rcases hs with ⟨_, rfl⟩ | ⟨_, rfl⟩ | ⟨_, rfl⟩ | ⟨_, rfl⟩ | ⟨_, rfl⟩ <;> rfl
  have dz : ∀ z : Int, RG z → z ≠ 0 → decide (I z = 0) = false := fun z hz h => by
    rw [lit0, decE hz.1 hz.2 (by decide) (by decide)]
    exact decide_eq_false h
  unfold hm_Ma_arithmetic hb_Ma_arithmetic_0
  rw [be1, bnd_so, e_tag, bnd_so, sortOf_e, bnd_so, RTb_so rt1']
  by_cases s1 : so (m.2.2.2 (pq p 35) W) = 0
  · rw [s1, show decide (I 0 = 0) = true from rfl, br_t, br_t, be0, bnd_so, e_tag, bnd_so, sortOf_e, bnd_so, RTb_so rt0']
    by_cases s0 : so (m.2.2.2 (pq p 35) (W + 1)) = 0
    · have n0 : x0 = m.2.2.2 (pq p 35) (W + 1) := RTb_n rt0' (by unfold isH; omega)
      have n1 : x1 = m.2.2.2 (pq p 35) W := RTb_n rt1' (by unfold isH; omega)
      rw [s0, show decide (I 0 = 0) = true from rfl, br_t, br_t, n0, n1]
      unfold hb_Ma_arithmetic_33
      rw [be1, bnd_so, be0, bnd_so]
      have d1 : ∀ z : Int64, decide (lg_cmp z 0 = 0) = decide (z = 0) := fun z => decide_eq_decide.mpr (lgc_eq z 0)
      rcases hs with ⟨rfl, rfl⟩ | ⟨rfl, rfl⟩ | ⟨rfl, rfl⟩ | ⟨rfl, rfl⟩ | ⟨rfl, rfl⟩
      · exact fin (((m.2.2.2 (pq p 35) W).toInt32).toInt64 + ((m.2.2.2 (pq p 35) (W + 1)).toInt32).toInt64)
      · exact fin (((m.2.2.2 (pq p 35) W).toInt32).toInt64 - ((m.2.2.2 (pq p 35) (W + 1)).toInt32).toInt64)
      · exact fin (((m.2.2.2 (pq p 35) W).toInt32).toInt64 * ((m.2.2.2 (pq p 35) (W + 1)).toInt32).toInt64)
      · rw [show decide (I 105 < (100 : Int32)) = false from rfl, br_f, val_m, bnd_so, show decide (I 10 = (10 : Int32)) = true from rfl, br_t]
        unfold hb_Ma_arithmetic_69 hb_Ma_arithmetic_74
        rw [show decide ((1 : Int32) = 0) = false from rfl, br_f, br_f, d1]
        by_cases z0 : (m.2.2.2 (pq p 35) (W + 1)).toInt32 = 0
        · rw [decide_eq_true z0, br_t, decide_eq_true (z64.mpr z0), br_t]
          exact no
        · have z1 : ¬ ((m.2.2.2 (pq p 35) (W + 1)).toInt32).toInt64 = 0 := fun z => z0 (z64.mp z)
          rw [decide_eq_false z0, br_f, decide_eq_false z1, br_f]
          have q1 : hb_Ma_arithmetic_99 N () m p (I 10) (((m.2.2.2 (pq p 35) W).toInt32).toInt64) (((m.2.2.2 (pq p 35) (W + 1)).toInt32).toInt64) = hb_Ma_arithmetic_208 N () m p (((m.2.2.2 (pq p 35) W).toInt32).toInt64 / ((m.2.2.2 (pq p 35) (W + 1)).toInt32).toInt64) := by
            unfold hb_Ma_arithmetic_99
            rw [show decide (I 10 = (10 : Int32)) = true from rfl, br_t, d1, decide_eq_false z1, br_f, decide_eq_true (p := ¬ ((m.2.2.2 (pq p 35) (W + 1)).toInt32).toInt64 = 0) z1, ck_t]
            rfl
          have q2 : ∀ u : MS, fb_M_twoRun_219 N () u (I 105) (m.2.2.2 (pq p 35) (W + 1)) (m.2.2.2 (pq p 35) W) = fb_M_twoRun_295 N () u (((m.2.2.2 (pq p 35) W).toInt32).toInt64 / ((m.2.2.2 (pq p 35) (W + 1)).toInt32).toInt64) := fun u => by
            unfold fb_M_twoRun_219
            rw [val_m, bnd_so, val_m, bnd_so, show decide (I 105 = (18 : Int32)) = false from rfl, br_f, show decide (I 105 = (19 : Int32)) = false from rfl, br_f, show decide (I 105 = (20 : Int32)) = false from rfl, br_f, show decide (I 105 = (105 : Int32)) = true from rfl, br_t, decide_eq_true (p := ¬ ((m.2.2.2 (pq p 35) (W + 1)).toInt32).toInt64 = 0) z1, ck_t]
          rw [q1, q2]
          exact fin _
      · rw [show decide (I 113 < (100 : Int32)) = false from rfl, br_f, val_m, bnd_so, show decide (I 18 = (10 : Int32)) = false from rfl, br_f, show decide (I 18 = (18 : Int32)) = true from rfl, br_t]
        unfold hb_Ma_arithmetic_69 hb_Ma_arithmetic_74
        rw [show decide ((1 : Int32) = 0) = false from rfl, br_f, br_f, d1]
        by_cases z0 : (m.2.2.2 (pq p 35) (W + 1)).toInt32 = 0
        · rw [decide_eq_true z0, br_t, decide_eq_true (z64.mpr z0), br_t]
          exact no
        · have z1 : ¬ ((m.2.2.2 (pq p 35) (W + 1)).toInt32).toInt64 = 0 := fun z => z0 (z64.mp z)
          rw [decide_eq_false z0, br_f, decide_eq_false z1, br_f]
          have q1 : hb_Ma_arithmetic_99 N () m p (I 18) (((m.2.2.2 (pq p 35) W).toInt32).toInt64) (((m.2.2.2 (pq p 35) (W + 1)).toInt32).toInt64) = hb_Ma_arithmetic_208 N () m p (((m.2.2.2 (pq p 35) W).toInt32).toInt64 - ((m.2.2.2 (pq p 35) W).toInt32).toInt64 / ((m.2.2.2 (pq p 35) (W + 1)).toInt32).toInt64 * ((m.2.2.2 (pq p 35) (W + 1)).toInt32).toInt64) := by
            unfold hb_Ma_arithmetic_99
            rw [show decide (I 18 = (10 : Int32)) = false from rfl, br_f, show decide (I 18 = (33 : Int32)) = false from rfl, br_f, show decide (I 18 = (34 : Int32)) = false from rfl, br_f, show decide (I 18 = (35 : Int32)) = false from rfl, br_f, d1, decide_eq_false z1, br_f, decide_eq_true (p := ¬ ((m.2.2.2 (pq p 35) (W + 1)).toInt32).toInt64 = 0) z1, ck_t]
            rfl
          have q2 : ∀ u : MS, fb_M_twoRun_219 N () u (I 113) (m.2.2.2 (pq p 35) (W + 1)) (m.2.2.2 (pq p 35) W) = fb_M_twoRun_295 N () u (((m.2.2.2 (pq p 35) W).toInt32).toInt64 - ((m.2.2.2 (pq p 35) W).toInt32).toInt64 / ((m.2.2.2 (pq p 35) (W + 1)).toInt32).toInt64 * ((m.2.2.2 (pq p 35) (W + 1)).toInt32).toInt64) := fun u => by
            unfold fb_M_twoRun_219
            rw [val_m, bnd_so, val_m, bnd_so, show decide (I 113 = (18 : Int32)) = false from rfl, br_f, show decide (I 113 = (19 : Int32)) = false from rfl, br_f, show decide (I 113 = (20 : Int32)) = false from rfl, br_f, show decide (I 113 = (105 : Int32)) = false from rfl, br_f, decide_eq_true (p := ¬ ((m.2.2.2 (pq p 35) (W + 1)).toInt32).toInt64 = 0) z1, ck_t]
          rw [q1, q2]
          exact fin _
    · rw [dz _ (so_r _) s0, br_f, br_f, e32]
      exact no
  · rw [dz _ (so_r _) s1, br_f, br_f, e32]
    exact no
end
