/-! a number with its sign changed; no parts -/
set_option maxRecDepth 100000
section
variable {α β : Type} {b : Int → Nat → Nat → Prop} {N p k l U B W Y j a n : Nat} {m w : MS} {nb : Nat → Nat} {Hs Os : Nat → List Nat} {y : Option (Nat × Nat × Nat)} {Q : MS → α → MS → β → Prop} {K1 : MS → Option (MS × α)} {K2 : MS → Option (MS × β)} {v : Int}
theorem one_8 : fm_M_one N w (I v) (I 8) = bnd (fm_M_goTo N w (I v + 1)) (fun u7 _ => bnd (fm_M_otherRun N u7 (I v) (I 8)) (fun u8 _ => some (u8, ()))) := rfl
theorem oth_8 {z : Int32} : fm_M_otherRun N w z (I 8) = bnd (fm_M_take N w) (fun u22 r22 => bnd (fm_M_sortOf N u22 r22) (fun u23 r23 => br (decide (r23 = 0)) (bnd (fm_M_valueOf N u23 r22) (fun u24 r24 => bnd (fm_M_valueOf N u24 r22) (fun u25 r25 => br (decide (r24 = (-r25))) (bnd (fm_M_valueOf N u25 r22) (fun u26 r26 => br (decide (r26 = 0)) (fb_M_otherRun_171 N () u26 (r22)) (fb_M_otherRun_162 N () u26))) (fb_M_otherRun_171 N () u25 (r22))))) (fb_M_otherRun_162 N () u23))) := rfl
theorem op_neg (hpp : p < 24) (pl : PLs b p m w U B (W + 1) Y) (ru : RUs m w p j nb Hs Os y a n) (hW : W + 1 < 46000) (hl : F m (pq p 45) = ((l : Nat) : Int)) (hl2 : W + 1 ≤ l ∧ l ≤ 1000000) (ha : a + 1 < 24000) (cr : ∃ f, CRs (A m 23) (ROs w) (w.2.2.2 34) f y (a + 1) (n + 1) (Hs j) (Os j))
    (c : ∀ m3 w3, PLs b p m3 w3 U B (W + 1) Y → RUs m3 w3 p j nb Hs Os y (a + 1) (n + 1) → FGm p m m3 → FGw p j w w3 → PP Q (K1 m3) (K2 w3))
    (c0 : PP Q (bnd (hm_Ma_wrong N m p 12) (fun u _ => K1 u)) (bnd (fr_M_error N (wa (wa w 98 (60 * p + j) ((n + 1 : Nat) : Int)) 92 p ((W : Nat) : Int)) 12) (fun u _ => K2 u))) : PP Q (bnd (hm_Ma_value N m p (I 11)) (fun u _ => K1 u)) (bnd (fm_M_one N w (I ((n : Nat) : Int)) (I 8)) (fun u _ => K2 u)) := by
  obtain ⟨⟨fa, ct⟩, ⟨r2, r3⟩, -, ⟨r5, r6⟩, r7, ⟨r8, r9, r10⟩, r11, r12, r13⟩ := id ru
  have hj : j < 60 := fa.1.2.2
  have rt := pl.2.2.1.2.2 W (by omega)
  have be : hm_Fr_below N m p 0 = some (m, m.2.2.2 (pq p 35) W) := by
    have := below_e (N := N) (x := 0) (k := 0) (W := W + 1) (l := l) pl.2.2.1.1 hl hl2.1 hl2.2 rfl (by omega)
    rw [show W + 1 - 1 - 0 = W by omega] at this
    exact this
  have rt' : RTb b (m.2.2.2 (pq p 35) W) ((wa w 98 (60 * p + j) ((n + 1 : Nat) : Int)).2.2.2 91 (46000 * p + W)) := rt
  have nb9 := (CR_b cr.choose_spec).2.1
  rw [val11, one_8, show I ((n : Nat) : Int) + 1 = I ((n + 1 : Nat) : Int) from addN, I_F' r2, show I ((a : Nat) : Int) + 1 = I ((a + 1 : Nat) : Int) from addN, Co_e (k := a + 1) rfl ha, bnd_so]
  unfold hm_Ma_negate hb_Ma_negate_0
  rw [be, bnd_so, e_tag, bnd_so]
  simp only [bb_e]
  refine r_bnd (pk_mo (goto_r (N := N) (n := ((n + 1 : Nat) : Int)) hpp r11 fa.1.2.1 hj) (fun w2 _ h => ?_))
  subst h
  have h92 : A (wa w 98 (60 * p + j) ((n + 1 : Nat) : Int)) 92 p = ((W + 1 : Nat) : Int) := by rw [wa_rne (by omega)]; exact pl.2.2.1.2.1
  rw [oth_8]
  simp only [bb_e]
  refine r_bnd (pk_mo (take_r (N := N) (w := wa w 98 (60 * p + j) ((n + 1 : Nat) : Int)) hpp r11 h92 (by omega)) (fun w3 r h => ?_))
  obtain ⟨rfl, rfl⟩ := h
  rw [sortOf_e, bnd_so]
  have g3 : FGw p j w (wa (wa w 98 (60 * p + j) ((n + 1 : Nat) : Int)) 92 p ((W : Nat) : Int)) := FGw.tr FGw.goto FGw.w92
  have h98 : A (wa (wa w 98 (60 * p + j) ((n + 1 : Nat) : Int)) 92 p ((W : Nat) : Int)) 98 (60 * p + j) = ((n + 1 : Nat) : Int) := by rw [wa_rne (by omega), wa_sm (by omega) (by omega)]
  have pl2 : PLs b p (wi m (pq p 26) ((W : Nat) : Int)) (wa (wa w 98 (60 * p + j) ((n + 1 : Nat) : Int)) 92 p ((W : Nat) : Int)) U B W Y := PLs_drop (k := 1) (PLs_98 pl) (by omega)
  have e5 : F (wi m (pq p 26) ((W : Nat) : Int)) 1105 = ((a : Nat) : Int) := by rw [wi_ne (pq_n (by omega))]; exact r2
  have e45 : F (wi m (pq p 26) ((W : Nat) : Int)) (pq p 45) = ((l : Nat) : Int) := by rw [wi_ne (pq_inj (by omega))]; exact hl
  generalize (wa w 98 (60 * p + j) ((n + 1 : Nat) : Int)).2.2.2 91 (46000 * p + W) = x at rt' ⊢
  rw [RTb_so rt']
  by_cases s0 : so (m.2.2.2 (pq p 35) W) = 0
  · have ex : x = m.2.2.2 (pq p 35) W := RTb_n rt' (by unfold isH; omega)
    rw [s0, show decide (I 0 = 0) = true from rfl, br_t, br_t, ex, val_m, bnd_so, val_m, bnd_so, be, bnd_so]
    unfold hm_Ma_number hb_Ma_number_0
    have fin : PP Q (bnd (bnd (bnd (hm_Te_make N m 0 ((-((m.2.2.2 (pq p 35) W).toInt32.toInt64)).toInt32)) (fun u1 r1 => bnd (hm_Ma_answer N u1 p 1 r1) (fun u2 r2 => lt (upI u2 1105 ((u2.1 1105) + 1)) (fun w4 => some (w4, ()))))) (fun u8 _ => some (u8, ()))) (fun u _ => bnd (some (u, ())) (fun u _ => K1 u))) (bnd (fb_M_otherRun_171 N () (wa (wa w 98 (60 * p + j) ((n + 1 : Nat) : Int)) 92 p ((W : Nat) : Int)) (m.2.2.2 (pq p 35) W)) (fun u _ => bnd (some (u, ())) (fun u _ => K2 u))) := by
      unfold fb_M_otherRun_171 fb_M_otherRun_184 fb_M_otherRun_328
      rw [val_m, bnd_so, neg_32]
      generalize -((m.2.2.2 (pq p 35) W).toInt32) = z
      rw [I_of z, lit0, e_make, bnd_so, term_e, bnd_so]
      unfold hm_Ma_answer hb_Ma_answer_0
      rw [show (1 : Int32) = I 1 from rfl, drop_e (W := W + 1) (k := 1) (x := 1) pl.2.2.1.1 rfl (by omega), bnd_so, Nat.add_sub_cancel]
      have pp := push_pp (N := N) (a2 := a + 1) (n2 := n + 1) (dz := 1) (l := l) (W := W) (t := mk 0 z.toInt) (x := mk 0 z.toInt) (Q := Q) (K1 := K1) (K2 := K2) hpp ru ⟨by omega, hl, by omega, hl2.2⟩ (lit_b (by omega) (fun h => by omega) (ti_rng z)) FGm.drop g3 pl2 e45 r11 h98 e5 rfl (by omega) cr c
      simp only [bb_e, bnd_so] at pp
      simp only [bb_e, bnd_so]
      exact pp
    have no : PP Q (bnd (bnd (bnd (hm_Ma_wrong N m p 12) (fun u5 _ => some (u5, ()))) (fun u8 _ => some (u8, ()))) (fun u _ => bnd (some (u, ())) (fun u _ => K1 u))) (bnd (fb_M_otherRun_162 N () (wa (wa w 98 (60 * p + j) ((n + 1 : Nat) : Int)) 92 p ((W : Nat) : Int))) (fun u _ => bnd (some (u, ())) (fun u _ => K2 u))) := by
      unfold fb_M_otherRun_162 fb_M_otherRun_184 fb_M_otherRun_328
      simp only [bb_e, bnd_so]
      exact c0
    have n64 := neg_64 (m.2.2.2 (pq p 35) W).toInt32
    by_cases z1 : (m.2.2.2 (pq p 35) W).toInt32 = -(m.2.2.2 (pq p 35) W).toInt32
    · rw [decide_eq_true z1, br_t, val_m, bnd_so]
      by_cases z2 : (m.2.2.2 (pq p 35) W).toInt32 = 0
      · rw [decide_eq_true (n64.mpr (fun c => c.2 z2)), br_t, decide_eq_true z2, br_t]
        exact fin
      · rw [decide_eq_false (fun c => n64.mp c ⟨z1, z2⟩), br_f, decide_eq_false z2, br_f]
        exact no
    · rw [decide_eq_true (n64.mpr (fun c => z1 c.1)), br_t, decide_eq_false z1, br_f]
      exact fin
  · have e : decide (I (so (m.2.2.2 (pq p 35) W)) = 0) = false := by
      have := so_r (m.2.2.2 (pq p 35) W)
      rw [lit0, decE this.1 this.2 (by decide) (by decide)]
      exact decide_eq_false s0
    rw [e, br_f, br_f]
    unfold fb_M_otherRun_162 fb_M_otherRun_184 fb_M_otherRun_328
    simp only [bb_e, bnd_so]
    exact c0
end
