section
section
variable {h : Nat → Int64} {n p N f : Nat} {ow kd : Nat → Nat} {Fv : Int64 → Int64 → Prop} {P : Int64 → Prop} {u0 : MS} {B : Int}
def ENT (h : Nat → Int64) (n : Nat) (ow kd : Nat → Nat) (Fv : Int64 → Int64 → Prop) (P : Int64 → Prop) (f : Nat) (t : Int64) (k : Nat) : Prop :=
  (so t = 20 ∧ k = 1) ∨ (so t = 21 ∧ 0 ≤ va t ∧ vn t + 2 ≤ n ∧ ∃ d, k = 3 + 2 * d ∧ SZ h n ow kd Fv P f (h (vn t + 1)) d) ∨ ∃ c, k = 1 + 2 * c ∧ SZ h n ow kd Fv P f t c
def PS (P : Int64 → Prop) : Prop := ∀ t, P t → so t = 0 ∨ so t = 1 ∨ so t = 2 ∨ so t = 4 ∨ so t = 6
theorem ENT_pos {t : Int64} {k : Nat} (e : ENT h n ow kd Fv P f t k) : 1 ≤ k := by
  rcases e with ⟨-, e⟩ | ⟨-, -, -, d, e, -⟩ | ⟨c, e, -⟩ <;> omega
def WOI (B : Int) (u0 : MS) (h : Nat → Int64) (n : Nat) (ow kd : Nat → Nat) (Fv : Int64 → Int64 → Prop) (P : Int64 → Prop) (f : Nat) (u : MS) (many : Nat) (c : Nat → Nat) : Prop :=
  FR [144] [] [143] [141] u0 u ∧ 0 ≤ F u 144 ∧ F u 144 ≤ B ∧ (∀ i, i < many → ENT h n ow kd Fv P f (u.2.2.2 141 i) (c i)) ∧ smm c 0 many ≤ 2001
theorem WOI_many {u : MS} {many : Nat} {c : Nat → Nat} (w : WOI B u0 h n ow kd Fv P f u many c) : many ≤ 2001 := Nat.le_trans (smm_ge (fun i hi => ENT_pos (w.2.2.2.1 i hi))) w.2.2.2.2
theorem WOI_txt {u w : MS} {many : Nat} {c : Nat → Nat} {k : Int} (a : WOI B u0 h n ow kd Fv P f u many c) (t : TXT u w k) (hk : F w 144 ≤ B) : WOI B u0 h n ow kd Fv P f w many c := by
  obtain ⟨a1, a2, a3, a4, a5⟩ := a
  refine ⟨FR.tr a1 (FR.mo t.1 (fun _ z => z) (fun _ z => z) (fun _ z => z) (fun _ z => by cases z)), by have := t.2.1; omega, hk, ?_, a5⟩
  rw [t.1.2.2.2 141 (by decide)]
  exact a4
theorem WOI_push {u : MS} {many : Nat} {c : Nat → Nat} {t : Int64} {k : Nat} (a : WOI B u0 h n ow kd Fv P f u many c) (e : ENT h n ow kd Fv P f t k) (hk : smm c 0 many + k ≤ 2001) : WOI B u0 h n ow kd Fv P f (wj u 141 many t) (many + 1) (fun i => if i = many then k else c i) := by
  obtain ⟨a1, a2, a3, a4, a5⟩ := a
  refine ⟨FR.wj a1 (by decide), a2, a3, fun i hi => ?_, by rw [smm_upd]; exact hk⟩
  rw [J_wj, if_pos rfl]
  by_cases e2 : i = many
  · subst e2; rw [if_pos rfl]; simp only [if_true]; exact e
  · rw [if_neg e2]; simp only [if_neg e2]; exact a4 i (by omega)
theorem WOI_pop {u : MS} {many : Nat} {c : Nat → Nat} (a : WOI B u0 h n ow kd Fv P f u (many + 1) c) : WOI B u0 h n ow kd Fv P f u many c ∧ ENT h n ow kd Fv P f (u.2.2.2 141 many) (c many) ∧ smm c 0 many + c many ≤ 2001 := by
  obtain ⟨a1, a2, a3, a4, a5⟩ := a
  have e : smm c 0 (many + 1) = smm c 0 many + c many := by show smm c 0 many + c (0 + many) = _; rw [Nat.zero_add]
  exact ⟨⟨a1, a2, a3, fun i hi => a4 i (by omega), by omega⟩, a4 many (by omega), by omega⟩
theorem rest_ok {u : MS} {many v d : Nat} {c : Nat → Nat} (hp1 : p < 25) (hn : n ≤ 500) (g : HP h n ow kd Fv P) (h0 : hp u0 p = h) (a : WOI B u0 h n ow kd Fv P f u many c) (hB : 6000 ≤ B ∧ B ≤ 90000) (hF : F u 144 ≤ 100) (hv : v + 2 ≤ n) (z : SZ h n ow kd Fv P f (h (v + 1)) d) (hk : smm c 0 many + (3 + 2 * d) ≤ 2001) :
    OK (fun w r => ∃ many2 c2, r = I ((many2 : Nat) : Int) ∧ WOI B u0 h n ow kd Fv P f w many2 c2 ∧ smm c2 0 many2 + 1 ≤ smm c 0 many + (3 + 2 * d)) (fm_M_restOfList N u (I p) (I many) (I v)) := by
  have hm := WOI_many a
  have eh : hp u p = h := by rw [← h0]; unfold hp; rw [a.1.2.2.2 88 (by decide)]
  unfold fm_M_restOfList fb_M_restOfList_0 fb_M_restOfList_124
  rw [lit1q, I_add, show (v : Int) + 1 = ((v + 1 : Nat) : Int) from by omega, cell_e hp1 (by omega), bnd_so, eh]
  generalize hy : h (v + 1) = y at *
  have ry := so_r y
  rw [sortOf_e, bnd_so, show (6 : Int32) = I 6 from rfl, show (7 : Int32) = I 7 from rfl, decE ry.1 ry.2 (by omega) (by omega)]
  by_cases e6 : so y = 6
  · rw [decide_eq_true e6, br_tq]
    refine ok_bnd.mpr (ok_mono (sign_ok a.2.1 (by omega)) (fun w _ q => ok_some.mpr ⟨many, c, rfl, WOI_txt a q.1 (by have := q.2; omega), by omega⟩))
  rw [decide_eq_false e6, br_fq, sortOf_e, bnd_so, decE ry.1 ry.2 (by omega) (by omega)]
  by_cases e7 : so y = 7
  · rw [decide_eq_true e7, br_tq]
    refine ok_bnd.mpr (ok_mono (sign_ok a.2.1 (by omega)) (fun w _ q => ?_))
    have aw := WOI_txt a q.1 (by have := q.2; omega)
    have hyh : isH y := Or.inr (Or.inr e7)
    have gy := SZ_gt z
    obtain ⟨b, pt⟩ := HP_bk g hyh gy
    have bb : blk h y = 2 := by unfold blk; rw [e7]; rfl
    have pp : prt y = 0 := by unfold prt; rw [e7]; rfl
    have bn := b.2.2.2.1
    have vy : va y = (vn y : Int) := by have := b.1; unfold vn; omega
    obtain ⟨f', hf'⟩ : ∃ f', f = f' + 1 := by cases f with | zero => exact z.elim | succ f' => exact ⟨f', rfl⟩
    subst hf'
    rcases z with ⟨z1, -⟩ | ⟨-, -, cc, z3, z4⟩
    · exact absurd hyh z1
    rw [bb, pp] at z3 z4
    have zd : d = 2 + (cc 0 + cc 1) := by rw [z4]; show 2 + (0 + cc (0 + 0) + cc (0 + 1)) = _; simp
    rw [valueOf_e, bnd_so, show (21 : Int32) = I 21 from rfl, term_e, bnd_so, inb_at (k := 141) (n := 3000) rfl (by omega) (by omega) (by decide), ck_t, lt_e, I_tn (by omega) (by omega), Int.toNat_natCast, wj_e, valueOf_e, bnd_so, vy, cell_e hp1 (by omega), bnd_so, I_add, inb_at (k := 141) (n := 3000) rfl (by omega) (by omega) (by decide), ck_t, lt_e, I_tn (by omega) (by omega), show ((many : Int) + 1).toNat = many + 1 from by omega, wj_e, show (2 : Int32) = I 2 from rfl, I_add]
    have ehw : hp (wj w 141 many (mk 21 (vn y : Int))) p = h := by rw [← h0]; unfold hp; rw [wj_ne (show 88 ≠ 141 by decide), aw.1.2.2.2 88 (by decide)]
    rw [ehw]
    have e21 : so (mk 21 (vn y : Int)) = 21 := so_mk (by omega) (by omega)
    have v21 : va (mk 21 (vn y : Int)) = (vn y : Int) := va_mk (by omega) (by omega)
    have n21 : vn (mk 21 (vn y : Int)) = vn y := by show (va _).toNat = _; rw [v21]; omega
    have en1 : ENT h n ow kd Fv P (f' + 1) (mk 21 (vn y : Int)) (3 + 2 * cc 1) := Or.inr (Or.inl ⟨e21, by omega, by rw [n21]; omega, cc 1, rfl, by rw [n21]; exact SZ_mono (z3 1 (by omega) (by omega))⟩)
    have en2 : ENT h n ow kd Fv P (f' + 1) (h (vn y)) (1 + 2 * cc 0) := Or.inr (Or.inr ⟨cc 0, rfl, SZ_mono (z3 0 (by omega) (by omega))⟩)
    have w1 := WOI_push aw en1 (by omega)
    have w2 := WOI_push w1 en2 (by rw [smm_upd]; omega)
    refine ok_some.mpr ⟨many + 2, _, by congr 1, w2, ?_⟩
    rw [smm_upd, smm_upd]; omega
  · rw [decide_eq_false e7, br_fq]
    refine ok_bnd.mpr (ok_mono (sign_ok a.2.1 (by omega)) (fun w _ q => ?_))
    have aw := WOI_txt a q.1 (by have := q.2; omega)
    rw [show (20 : Int32) = I 20 from rfl, show (93 : Int32) = I 93 from rfl, term_e, bnd_so, inb_at (k := 141) (n := 3000) rfl (by omega) (by omega) (by decide), ck_t, lt_e, I_tn (by omega) (by omega), Int.toNat_natCast, wj_e, I_add, inb_at (k := 141) (n := 3000) rfl (by omega) (by omega) (by decide), ck_t, lt_e, I_tn (by omega) (by omega), show ((many : Int) + 1).toNat = many + 1 from by omega, wj_e, show (2 : Int32) = I 2 from rfl, I_add]
    have en1 : ENT h n ow kd Fv P f (mk 20 93) 1 := Or.inl ⟨so_mk (by omega) (by omega), rfl⟩
    have en2 : ENT h n ow kd Fv P f y (1 + 2 * d) := Or.inr (Or.inr ⟨d, rfl, z⟩)
    have w1 := WOI_push aw en1 (by omega)
    have w2 := WOI_push w1 en2 (by rw [smm_upd]; omega)
    refine ok_some.mpr ⟨many + 2, _, by congr 1, w2, ?_⟩
    rw [smm_upd, smm_upd]; omega
end
section
variable {h : Nat → Int64} {n p N f : Nat} {ow kd : Nat → Nat} {Fv : Int64 → Int64 → Prop} {P : Int64 → Prop} {u0 : MS} {B : Int}
theorem wo_loop (hB : 6000 ≤ B ∧ B ≤ 90000) (hp1 : p < 25) (hn : n ≤ 500) (g : HP h n ow kd Fv P) (h0 : hp u0 p = h) (hat : ATM u0) (hP : ∀ t, P t → PA u0 t) (hS : PS P) (hN : 100 ≤ N) : ∀ (m : Nat),
    (∀ (u : MS) (many : Nat) (c : Nat → Nat), WOI B u0 h n ow kd Fv P f u many c → 5100 * smm c 0 many + 1 < m → OK (fun w _ => FR [144] [] [143] [141] u0 w ∧ 0 ≤ F w 144 ∧ F w 144 ≤ B) ((gg_M_writeOn N m).1 u (I p) (I many))) ∧
    (∀ (u : MS) (many v k : Nat) (c : Nat → Nat), WOI B u0 h n ow kd Fv P f u many c → (v : Int) < F u0 14 → (k : Int) ≤ A u0 13 (v + 1) → F u 144 ≤ 100 + k → 5100 * smm c 0 many + (5000 - k) + 2 < m → OK (fun w _ => FR [144] [] [143] [141] u0 w ∧ 0 ≤ F w 144 ∧ F w 144 ≤ B) ((gg_M_writeOn N m).2.1 u (I p) (I many) (I v) (I k))) ∧
    (∀ (u : MS) (many v k : Nat) (c d : Nat → Nat), WOI B u0 h n ow kd Fv P f u many c → v + 1 + k ≤ n → (∀ i, 1 ≤ i → i < 1 + k → SZ h n ow kd Fv P f (h (v + i)) (d i)) → smm c 0 many + (2 * k + 2 * smm d 1 k) ≤ 2001 → 5100 * (smm c 0 many + (2 * k + 2 * smm d 1 k)) + k + 2 < m → OK (fun w _ => FR [144] [] [143] [141] u0 w ∧ 0 ≤ F w 144 ∧ F w 144 ≤ B) ((gg_M_writeOn N m).2.2 u (I p) (I many) (I v) (I k))) := by
  have hat' := hat
  obtain ⟨t1, t2, t3⟩ := hat
  intro m
  induction m with
  | zero => exact ⟨fun u many c _ z => absurd z (Nat.not_lt_zero _), fun u many v k c _ _ _ _ z => absurd z (Nat.not_lt_zero _), fun u many v k c d _ _ _ _ z => absurd z (Nat.not_lt_zero _)⟩
  | succ m ih =>
    obtain ⟨ih1, ih2, ih3⟩ := ih
    refine ⟨fun u many c a hm => ?_, fun u many v k c a hv hk hF hm => ?_, fun u many v k c d a hv hd hb hm => ?_⟩
    · have hmany := WOI_many a
      show OK _ (fb_M_writeOn_10 N (gg_M_writeOn N m) u (I p) (I many))
      unfold fb_M_writeOn_10 fb_M_writeOn_387 fb_M_writeOn_384
      rw [lit0q, decI (by omega) (by omega) (by omega) (by omega)]
      have fin : OK (fun w _ => FR [144] [] [143] [141] u0 w ∧ 0 ≤ F w 144 ∧ F w 144 ≤ B) (some (u, ())) := ok_some.mpr ⟨a.1, a.2.1, a.2.2.1⟩
      cases many with
      | zero => rw [decide_eq_true (by omega), br_tq]; exact fin
      | succ many =>
        rw [decide_eq_false (by omega), br_fq]
        have ea : I (F u 144) = u.1 144 := I_F.symm
        rw [← ea, lit100, decI (by omega) (by omega) (by have := a.2.1; omega) (by have := a.2.2.1; omega)]
        by_cases e100 : 100 ≤ F u 144
        · rw [decide_eq_true e100, br_tq]; exact fin
        rw [decide_eq_false e100, br_fq, litm1q, I_add, show ((many + 1 : Nat) : Int) + -1 = (many : Int) from by omega, inb_at (k := 141) (n := 3000) rfl (by omega) (by omega) (by decide), ck_t, lt_e, I_tn (x := (many : Int)) (by omega) (by omega), Int.toNat_natCast]
        obtain ⟨ap, ent, hsum⟩ := WOI_pop a
        have hlast : smm c 0 (many + 1) = smm c 0 many + c many := by show smm c 0 many + c (0 + many) = _; rw [Nat.zero_add]
        have cp := ENT_pos ent
        generalize u.2.2.2 141 many = y at ent ⊢
        have ry := so_r y
        rw [sortOf_e, bnd_so, valueOf_e, bnd_so, show (20 : Int32) = I 20 from rfl, show (21 : Int32) = I 21 from rfl, show (4 : Int32) = I 4 from rfl, show (2 : Int32) = I 2 from rfl, show (3 : Int32) = I 3 from rfl, show (6 : Int32) = I 6 from rfl, show (7 : Int32) = I 7 from rfl, lit1q, decE ry.1 ry.2 (by omega) (by omega), decE ry.1 ry.2 (by omega) (by omega), decE ry.1 ry.2 (by omega) (by omega), decE ry.1 ry.2 (by omega) (by omega), decE ry.1 ry.2 (by omega) (by omega), decE ry.1 ry.2 (by omega) (by omega), decE ry.1 ry.2 (by omega) (by omega), decE ry.1 ry.2 (by omega) (by omega), decE ry.1 ry.2 (by omega) (by omega)]
        have F0 := a.2.1
        have on : ∀ (w : MS) (k : Int), TXT u w k → k ≤ 20 → OK (fun w _ => FR [144] [] [143] [141] u0 w ∧ 0 ≤ F w 144 ∧ F w 144 ≤ B) ((gg_M_writeOn N m).1 w (I p) (I many)) := fun w k t hk => ih1 w many c (WOI_txt ap t (by have := t.2.2; omega)) (by omega)
        by_cases e20 : so y = 20
        · rw [decide_eq_true e20, br_tq]
          exact ok_bnd.mpr (ok_mono (sign_ok F0 (by omega)) (fun w _ q => on w 1 q.1 (by omega)))
        rw [decide_eq_false e20, br_fq]
        by_cases e21 : so y = 21
        · rw [decide_eq_true e21, br_tq]
          rcases ent with ⟨z, -⟩ | ⟨-, z2, z3, d, z4, z5⟩ | ⟨cc, z1, z2⟩
          · exact absurd z e20
          · rw [show va y = (vn y : Int) from by unfold vn; omega]
            refine ok_bnd.mpr (ok_mono (rest_ok hp1 hn g h0 ap hB (by omega) z3 z5 (by omega)) (fun w r q => ?_))
            obtain ⟨m2, c2, q1, q2, q3⟩ := q
            rw [q1]
            exact ih1 w m2 c2 q2 (by omega)
          · exfalso
            rcases SZ_gt z2 with ⟨-, w⟩ | ⟨w, -⟩
            · have := hS y w; omega
            · unfold isH at w; omega
        rw [decide_eq_false e21, br_fq]
        obtain ⟨cc, z1, z2⟩ : ∃ cc, c many = 1 + 2 * cc ∧ SZ h n ow kd Fv P f y cc := by
          rcases ent with ⟨z, -⟩ | ⟨z, -⟩ | z
          · exact absurd z e20
          · exact absurd z e21
          · exact z
        have gy := SZ_gt z2
        by_cases e0 : so y = 0
        · rw [decide_eq_true e0, br_tq]
          exact ok_bnd.mpr (ok_mono (digits_ok F0 (by omega) hN) (fun w _ q => on w 12 q (by omega)))
        rw [decide_eq_false e0, br_fq]
        by_cases e1 : so y = 1
        · rw [decide_eq_true e1, br_tq]
          obtain ⟨a1, a2⟩ := gt_pa hP gy e1
          have ev : va y = ((va y).toNat : Int) := by omega
          obtain ⟨b1, b2, b3⟩ := t3 (va y).toNat (by omega)
          rw [inb_at (k := 13) (n := 2200) rfl (by omega) (by omega) (by decide), ck_t, I_tn (by omega) (by omega), I_A' (show A u 13 (va y).toNat = ((A u0 13 (va y).toNat).toNat : Int) from by rw [FR.A a.1 (by decide)]; omega)]
          rw [ev, Int.toNat_natCast]
          exact ih2 u many (va y).toNat (A u0 13 (va y).toNat).toNat c ap (by omega) (by omega) (by omega) (by omega)
        rw [decide_eq_false e1, br_fq]
        by_cases e4 : so y = 4
        · rw [decide_eq_true e4, br_tq]
          refine ok_bnd.mpr (ok_mono (sign_ok F0 (by omega)) (fun w1 _ q1 => ok_bnd.mpr (ok_mono (digits_ok (by have := q1.2; omega) (by have := q1.2; omega) hN) (fun w2 _ q2 => ok_bnd.mpr (ok_mono (sign_ok (by have := q1.2; have := q2.2.1; omega) (by have := q1.2; have := q2.2.2; omega)) (fun w3 _ q3 => ?_))))))
          exact on w3 14 (TXT.tr (TXT.tr (c := 13) q1.1 q2 (by omega)) q3.1 (by omega)) (by omega)
        rw [decide_eq_false e4, br_fq]
        by_cases e2 : so y = 2
        · rw [decide_eq_true e2, br_tq]
          refine ok_bnd.mpr (ok_mono (sign_ok F0 (by omega)) (fun w1 _ q1 => ok_bnd.mpr (ok_mono (digits_ok (by have := q1.2; omega) (by have := q1.2; omega) hN) (fun w2 _ q2 => ?_))))
          exact on w2 13 (TXT.tr q1.1 q2 (by omega)) (by omega)
        rw [decide_eq_false e2, br_fq]
        by_cases e3 : so y = 3
        · rw [decide_eq_true e3, br_tq]
          refine ok_bnd.mpr (ok_mono (sign_ok F0 (by omega)) (fun w1 _ q1 => ok_bnd.mpr (ok_mono (sign_ok (by have := q1.2; omega) (by have := q1.2; omega)) (fun w2 _ q2 => ok_bnd.mpr (ok_mono (sign_ok (by have := q1.2; have := q2.2; omega) (by have := q1.2; have := q2.2; omega)) (fun w3 _ q3 => ?_))))))
          exact on w3 3 (TXT.tr (TXT.tr (c := 2) q1.1 q2.1 (by omega)) q3.1 (by omega)) (by omega)
        rw [decide_eq_false e3, br_fq]
        by_cases e6 : so y = 6
        · rw [decide_eq_true e6, br_tq]
          refine ok_bnd.mpr (ok_mono (sign_ok F0 (by omega)) (fun w1 _ q1 => ok_bnd.mpr (ok_mono (sign_ok (by have := q1.2; omega) (by have := q1.2; omega)) (fun w2 _ q2 => ?_))))
          exact on w2 2 (TXT.tr q1.1 q2.1 (by omega)) (by omega)
        rw [decide_eq_false e6, br_fq]
        have hy : isH y := by
          rcases gy with ⟨-, w⟩ | ⟨w, -⟩
          · have := hS y w; omega
          · exact w
        obtain ⟨b, pt⟩ := HP_bk g hy gy
        have bn := b.2.2.2.1
        have bp := blk_pos (h := h) hy
        have vy : va y = (vn y : Int) := by have := b.1; unfold vn; omega
        obtain ⟨f', hf'⟩ : ∃ f', f = f' + 1 := by cases f with | zero => exact z2.elim | succ f' => exact ⟨f', rfl⟩
        subst hf'
        rcases z2 with ⟨w, -⟩ | ⟨-, -, d, z3, z4⟩
        · exact absurd hy w
        by_cases e7 : so y = 7
        · rw [decide_eq_true e7, br_tq]
          refine ok_bnd.mpr (ok_mono (sign_ok F0 (by omega)) (fun w _ q => ?_))
          have aw := WOI_txt ap q.1 (by have := q.2; omega)
          have bb : blk h y = 2 := by unfold blk; rw [e7]; rfl
          have pp : prt y = 0 := by unfold prt; rw [e7]; rfl
          rw [bb, pp] at z3 z4
          have zd : cc = 2 + (d 0 + d 1) := by rw [z4]; show 2 + (0 + d (0 + 0) + d (0 + 1)) = _; simp
          rw [vy, term_e, bnd_so, ck_t, lt_e, wj_e, cell_e hp1 (by omega), bnd_so, I_add, inb_at (k := 141) (n := 3000) rfl (by omega) (by omega) (by decide), ck_t, lt_e, I_tn (by omega) (by omega), show ((many : Int) + 1).toNat = many + 1 from by omega, wj_e, I_add]
          have ehw : hp (wj w 141 many (mk 21 (vn y : Int))) p = h := by rw [← h0]; unfold hp; rw [wj_ne (show 88 ≠ 141 by decide), aw.1.2.2.2 88 (by decide)]
          rw [ehw]
          have e21 : so (mk 21 (vn y : Int)) = 21 := so_mk (by omega) (by omega)
          have v21 : va (mk 21 (vn y : Int)) = (vn y : Int) := va_mk (by omega) (by omega)
          have n21 : vn (mk 21 (vn y : Int)) = vn y := by show (va _).toNat = _; rw [v21]; omega
          have en1 : ENT h n ow kd Fv P (f' + 1) (mk 21 (vn y : Int)) (3 + 2 * d 1) := Or.inr (Or.inl ⟨e21, by omega, by rw [n21]; omega, d 1, rfl, by rw [n21]; exact SZ_mono (z3 1 (by omega) (by omega))⟩)
          have en2 : ENT h n ow kd Fv P (f' + 1) (h (vn y)) (1 + 2 * d 0) := Or.inr (Or.inr ⟨d 0, rfl, SZ_mono (z3 0 (by omega) (by omega))⟩)
          have w1 := WOI_push aw en1 (by omega)
          have w2 := WOI_push w1 en2 (by rw [smm_upd]; omega)
          have := ih1 _ (many + 2) _ w2 (by rw [smm_upd, smm_upd]; omega)
          rw [show ((many + 2 : Nat) : Int) = (many : Int) + 2 from by omega] at this
          exact this
        rw [decide_eq_false e7, br_fq]
        have e5 : so y = 5 := by unfold isH at hy; omega
        refine ok_bnd.mpr (ok_mono (sign_ok F0 (by omega)) (fun w _ q => ?_))
        have aw := WOI_txt ap q.1 (by have := q.2; omega)
        have bb : blk h y = 1 + vn (h (vn y)) := by unfold blk; rw [e5]; rfl
        have pp : prt y = 1 := by unfold prt; rw [e5]; rfl
        have b5 := (b.2.1 e5).1
        rw [bb, pp, Nat.add_sub_cancel_left] at z4
        rw [bb, pp] at z3
        rw [vy, show (125 : Int32) = I 125 from rfl, term_e, bnd_so, ck_t, lt_e, wj_e, cell_e hp1 (by omega), bnd_so, I_add]
        have ehw : hp (wj w 141 many (mk 20 125)) p = h := by rw [← h0]; unfold hp; rw [wj_ne (show 88 ≠ 141 by decide), aw.1.2.2.2 88 (by decide)]
        rw [ehw, I_of (h (vn y)).toInt32]
        have en1 : ENT h n ow kd Fv P (f' + 1) (mk 20 125) 1 := Or.inl ⟨so_mk (by omega) (by omega), rfl⟩
        have w1 := WOI_push aw en1 (by omega)
        have := ih3 _ (many + 1) (vn y) (vn (h (vn y))) _ d w1 (by omega) (fun i a b2 => SZ_mono (z3 i a b2)) (by rw [smm_upd]; omega) (by rw [smm_upd]; omega)
        rw [show ((many + 1 : Nat) : Int) = (many : Int) + 1 from by omega, show ((vn (h (vn y)) : Nat) : Int) = (h (vn y)).toInt32.toInt from by show (((va (h (vn y))).toNat : Nat) : Int) = va (h (vn y)); omega] at this
        exact this
    · have hmany := WOI_many a
      obtain ⟨b1, b2, b3⟩ := t3 v hv
      show OK _ (fb_M_writeOn_116 N (gg_M_writeOn N m) u (I p) (I many) (I v) (I k))
      unfold fb_M_writeOn_116 fb_M_writeOn_384
      rw [lit1q, I_add, inb_at (k := 13) (n := 2200) rfl (by omega) (by omega) (by decide), ck_t, I_tn (by omega) (by omega), show ((v : Int) + 1).toNat = v + 1 from by omega, I_A' (show A u 13 (v + 1) = A u0 13 (v + 1) from FR.A a.1 (by decide)), decI (by omega) (by omega) (by omega) (by omega)]
      by_cases e : A u0 13 (v + 1) ≤ k
      · rw [decide_eq_true e, br_tq]
        exact ih1 u many c a (by omega)
      · rw [decide_eq_false e, br_fq, inb_at (k := 12) (n := 5000) rfl (by omega) (by omega) (by decide), ck_t]
        refine ok_bnd.mpr (ok_mono (sign_ok a.2.1 (by omega)) (fun w _ q => ?_))
        have := q.2
        rw [I_add]
        exact ih2 w many v (k + 1) c (WOI_txt a q.1 (by omega)) hv (by omega) (by omega) (by omega)
    · have hmany := WOI_many a
      show OK _ (fb_M_writeOn_329 N (gg_M_writeOn N m) u (I p) (I many) (I v) (I k))
      unfold fb_M_writeOn_329 fb_M_writeOn_378 fb_M_writeOn_384
      have eh : hp u p = h := by rw [← h0]; unfold hp; rw [a.1.2.2.2 88 (by decide)]
      rw [lit1q, decL (by omega) (by omega) (by omega) (by omega)]
      cases k with
      | zero =>
        rw [decide_eq_true (by omega), br_tq]
        exact ih1 u many c a (by omega)
      | succ k =>
        have hsd : smm d 1 (k + 1) = smm d 1 k + d (1 + k) := rfl
        rw [decide_eq_false (by omega), br_fq, I_add, show (v : Int) + ((k + 1 : Nat) : Int) = ((v + (k + 1) : Nat) : Int) from by omega, cell_e hp1 (by omega), bnd_so, eh, inb_at (k := 141) (n := 3000) rfl (by omega) (by omega) (by decide), ck_t, lt_e, I_tn (x := (many : Int)) (by omega) (by omega), Int.toNat_natCast, wj_e, decI (by omega) (by omega) (by omega) (by omega), I_neg, I_add, I_add, I_add]
        have en1 : ENT h n ow kd Fv P f (h (v + (k + 1))) (1 + 2 * d (1 + k)) := Or.inr (Or.inr ⟨d (1 + k), rfl, by have := hd (1 + k) (by omega) (by omega); rw [show v + (1 + k) = v + (k + 1) from by omega] at this; exact this⟩)
        have w1 := WOI_push a en1 (by omega)
        by_cases e : k = 0
        · subst e
          rw [decide_eq_true (by omega), br_tq]
          have := ih3 _ (many + 1) v 0 _ d w1 (by omega) (fun i a b2 => by omega) (by rw [smm_upd]; show _ + (2 * 0 + 2 * 0) ≤ 2001; omega) (by rw [smm_upd]; show 5100 * (_ + (2 * 0 + 2 * 0)) + 0 + 2 < m; omega)
          exact this
        · rw [decide_eq_false (by omega), br_fq, show (20 : Int32) = I 20 from rfl, show (44 : Int32) = I 44 from rfl, term_e, bnd_so, inb_at (k := 141) (n := 3000) rfl (by omega) (by omega) (by decide), ck_t, lt_e, I_tn (by omega) (by omega), show ((many : Int) + 1).toNat = many + 1 from by omega, wj_e]
          have en2 : ENT h n ow kd Fv P f (mk 20 44) 1 := Or.inl ⟨so_mk (by omega) (by omega), rfl⟩
          have w2 := WOI_push w1 en2 (by rw [smm_upd]; omega)
          have := ih3 _ (many + 1 + 1) v k _ d w2 (by omega) (fun i a b2 => hd i a (by omega)) (by rw [smm_upd, smm_upd]; omega) (by rw [smm_upd, smm_upd]; omega)
          rw [show ((k + 1 : Nat) : Int) + -1 = (k : Int) from by omega, show (many : Int) + 1 + 1 = ((many + 1 + 1 : Nat) : Int) from by omega]
          exact this
theorem writeOn_ok {t : Int64} (hB : 6000 ≤ B ∧ B ≤ 90000) (hp1 : p < 25) (hn : n ≤ 500) (g : HP (hp u0 p) n ow kd Fv P) (hat : ATM u0) (hP : ∀ t, P t → PA u0 t) (hS : PS P) (ht : GT n ow kd P t) (h1 : 0 ≤ F u0 144) (h2 : F u0 144 ≤ B) (hN : 11000000 ≤ N) : OK (fun w _ => FR [144] [] [143] [141] u0 w ∧ 0 ≤ F w 144 ∧ F w 144 ≤ B) (fm_M_writeOn N u0 (I p) t) := by
  obtain ⟨f, s, z⟩ := HP_sz g ht
  have hs := SZ_1000 g hn z
  unfold fm_M_writeOn fb_M_writeOn_0
  rw [lit0q, lit1q, inb_at (k := 141) (n := 3000) rfl (by omega) (by omega) (by decide), ck_t, lt_e, I_tn (by omega) (by omega), wj_e]
  refine (wo_loop (f := f) hB hp1 hn g rfl hat hP hS (by omega) N).1 (wj u0 141 0 t) 1 (fun _ => 1 + 2 * s) ⟨FR.wj FR.rf (by decide), h1, h2, fun i hi => ?_, by show 0 + (1 + 2 * s) ≤ 2001; omega⟩ (by show 5100 * (0 + (1 + 2 * s)) + 1 < N; omega)
  have e : i = 0 := by omega
  subst e
  rw [J_wj, if_pos rfl, if_pos rfl]
  exact Or.inr (Or.inr ⟨s, rfl, z⟩)
end
end
section
section
variable {h : Nat → Int64} {n : Nat} {ow kd : Nat → Nat} {Fv : Int64 → Int64 → Prop} {P : Int64 → Prop}
theorem SZ_own {h2 : Nat → Int64} {n2 : Nat} {ow2 kd2 : Nat → Nat} {Fv2 : Int64 → Int64 → Prop} {P2 : Int64 → Prop} (hn : n ≤ n2) (hh : ∀ i, i < n → ow i ≤ i → h2 i = h i) (ho : ∀ i, i < n → ow i ≤ i → ow2 i = ow i) (hk : ∀ i, i < n → ow i ≤ i → kd2 i = kd i) (hF : ∀ a b, Fv a b → Fv2 a b) (hP : ∀ t, P t → P2 t) : ∀ {f : Nat} {t : Int64} {s : Nat}, SZ h n ow kd Fv P f t s → SZ h2 n2 ow2 kd2 Fv2 P2 f t s
  | 0, _, _, z => z.elim
  | f + 1, t, s, z => by
    rcases z with ⟨z1, z2, z3⟩ | ⟨z1, ⟨b1, b2, b3, b4, b5, b6⟩, c, z3, z4⟩
    · exact Or.inl ⟨z1, hP t z2, z3⟩
    · have hb := blk_pos (h := h) z1
      have o0 : ow (vn t) = vn t := b6 0 hb
      have e0 : h2 (vn t) = h (vn t) := hh _ (by omega) (by omega)
      have e1 : so t = 3 → h2 (vn t + 1) = h (vn t + 1) := fun e => by
        have := blk_2 (h := h) e
        have := b6 1 (by omega)
        exact hh _ (by omega) (by omega)
      have eb : blk h2 t = blk h t := by
        unfold blk
        rw [e0]
        by_cases e : so t = 3
        · rw [e1 e]
        · simp [e]
      refine Or.inr ⟨z1, ⟨b1, fun e => by rw [e0]; exact b2 e, fun e => ?_, by omega, ?_, ?_⟩, c, ?_, ?_⟩
      · rw [e0, e1 e]; exact ⟨(b3 e).1, hF _ _ (b3 e).2⟩
      · rw [hk _ (by omega) (by omega)]; exact b5
      · rw [eb]; intro j hj; have := b6 j hj; rw [ho _ (by omega) (by omega)]; exact this
      · rw [eb]; intro j a b; have := b6 j b; rw [hh _ (by omega) (by omega)]; exact SZ_own hn hh ho hk hF hP (z3 j a b)
      · rw [eb]; exact z4
theorem HP_own {h2 : Nat → Int64} {n2 : Nat} {ow2 kd2 : Nat → Nat} (g : HP h n ow kd Fv P) (hn : n ≤ n2) (hh : ∀ i, i < n → ow i ≤ i → h2 i = h i) (ho : ∀ i, i < n → ow i ≤ i → ow2 i = ow i) (hk : ∀ i, i < n → ow i ≤ i → kd2 i = kd i) (hx : ∀ i, i < n2 → ow2 i = i → i < n ∧ ow i = i) : HP h2 n2 ow2 kd2 Fv P := by
  intro t ht gt
  rcases gt with ⟨z, -⟩ | ⟨-, g1, g2, g3, g4⟩
  · exact absurd ht z
  obtain ⟨q1, q2⟩ := hx _ g2 g3
  have gt0 : GT n ow kd P t := Or.inr ⟨ht, g1, q1, q2, by rw [← hk _ q1 (by omega)]; exact g4⟩
  obtain ⟨f, s, z1, z2⟩ := g t ht gt0
  refine ⟨f, s, SZ_own hn hh ho hk (fun _ _ q => q) (fun _ q => q) z1, fun h5 => ?_⟩
  obtain ⟨r1, r2, r3⟩ := z2 h5
  have b := (HP_bk g ht gt0).1
  have b6 := b.2.2.2.2.2
  have b4 := b.2.2.2.1
  have o1 := b6 1 (by omega)
  refine ⟨r1, ?_, by rw [hh _ (by omega) (by omega)]; exact r3⟩
  have q2' := r2
  unfold blk at q2' ⊢
  rw [r1] at q2' ⊢
  simp at q2' ⊢
  rw [hh _ q1 (by omega)]; exact q2'
theorem GT_own {n2 : Nat} {ow2 kd2 : Nat → Nat} {t : Int64} (gt : GT n ow kd P t) (hn : n ≤ n2) (ho : ∀ i, i < n → ow i ≤ i → ow2 i = ow i) (hk : ∀ i, i < n → ow i ≤ i → kd2 i = kd i) : GT n2 ow2 kd2 P t := by
  rcases gt with z | ⟨z1, z2, z3, z4, z5⟩
  · exact Or.inl z
  · exact Or.inr ⟨z1, z2, by omega, by rw [ho _ z3 (by omega)]; exact z4, by rw [hk _ z3 (by omega)]; exact z5⟩
def owH (n : Nat) (ow : Nat → Nat) : Nat → Nat := fun i => if n ≤ i then i + 1 else ow i
theorem HP_hole {h2 : Nat → Int64} (m : Nat) (g : HP h n ow kd Fv P) (hh : ∀ i, i < n → h2 i = h i) : HP h2 (n + m) (owH n ow) kd Fv P :=
  HP_own g (by omega) (fun i hi _ => hh i hi) (fun i hi _ => if_neg (by omega)) (fun _ _ _ => rfl) (fun i hi e => by
    unfold owH at e
    by_cases q : n ≤ i
    · rw [if_pos q] at e; omega
    · rw [if_neg q] at e; exact ⟨by omega, e⟩)
theorem GT_hole {t : Int64} (m : Nat) (gt : GT n ow kd P t) : GT (n + m) (owH n ow) kd P t := GT_own gt (by omega) (fun i hi _ => if_neg (by omega)) (fun _ _ _ => rfl)
theorem SZ_hole {h2 : Nat → Int64} {f : Nat} {t : Int64} {s : Nat} (m : Nat) (hh : ∀ i, i < n → h2 i = h i) (z : SZ h n ow kd Fv P f t s) : SZ h2 (n + m) (owH n ow) kd Fv P f t s := SZ_own (by omega) (fun i hi _ => hh i hi) (fun i hi _ => if_neg (by omega)) (fun _ _ _ => rfl) (fun _ _ q => q) (fun _ q => q) z
theorem HP_put (g : HP h n ow kd Fv P) {h2 : Nat → Int64} {m k : Nat} {x : Int64} (hh : ∀ i, ¬ (k ≤ i ∧ i < k + m) → h2 i = h i) (hkm : k + m ≤ n) (hno : ∀ j, j < m → k + j < ow (k + j)) (hx : isH x) (h0 : 0 ≤ va x) (hv : vn x = k) (hb : blk h2 x = m)
    (b2 : so x = 5 → HDC (h2 k)) (b3 : so x = 3 → 0 ≤ va (h2 (k + 1)) ∧ Fv (h2 k) (h2 (k + 1)))
    (hp : ∀ j, prt x ≤ j → j < m → GT n ow kd P (h2 (k + j)))
    (hs : (so x = 5 ∧ m = 3 ∧ ¬ isH (h2 (k + 1))) ∨ ∀ f c, (∀ j, prt x ≤ j → j < m → SZ h n ow kd Fv P f (h2 (k + j)) (c j)) → m + smm c (prt x) (m - prt x) ≤ 500) :
    ∃ ow2 kd2, (∀ i, i < n → ow i ≤ i → ow2 i = ow i) ∧ (∀ i, i < n → ow i ≤ i → kd2 i = kd i) ∧ (∀ i, ¬ (k ≤ i ∧ i < k + m) → ow2 i = ow i) ∧ HP h2 n ow2 kd2 Fv P ∧ GT n ow2 kd2 P x ∧ (∀ f t s, SZ h n ow kd Fv P f t s → SZ h2 n ow2 kd2 Fv P f t s) ∧ ∀ f c, (∀ j, prt x ≤ j → j < m → SZ h n ow kd Fv P f (h2 (k + j)) (c j)) → SZ h2 n ow2 kd2 Fv P (f + 1) x (m + smm c (prt x) (m - prt x)) := by
  have mp : 0 < m := by rw [← hb]; exact blk_pos hx
  have sx : 0 ≤ so x := by rcases hx with e | e | e <;> omega
  have out : ∀ i, i < n → ow i ≤ i → ¬ (k ≤ i ∧ i < k + m) := fun i _ q z => by
    have := hno (i - k) (by omega)
    rw [show k + (i - k) = i from by omega] at this
    omega
  have ho : ∀ i, i < n → ow i ≤ i → (fun i => if k ≤ i ∧ i < k + m then k else ow i) i = ow i := fun i a b => if_neg (out i a b)
  have hk : ∀ i, i < n → ow i ≤ i → (fun i => if i = k then (so x).toNat else kd i) i = kd i := fun i a b => if_neg (fun z => out i a b (by omega))
  have ext : ∀ f t s, SZ h n ow kd Fv P f t s → SZ h2 n (fun i => if k ≤ i ∧ i < k + m then k else ow i) (fun i => if i = k then (so x).toNat else kd i) Fv P f t s := fun f t s z =>
    SZ_own (Nat.le_refl _) (fun i a b => hh i (out i a b)) ho hk (fun _ _ q => q) (fun _ q => q) z
  have bkt : ∀ t : Int64, isH t → 0 ≤ va t → vn t = k → so t = so x → BK h2 n (fun i => if k ≤ i ∧ i < k + m then k else ow i) (fun i => if i = k then (so x).toNat else kd i) Fv t ∧ blk h2 t = m ∧ prt t = prt x := fun t _ t0 tv ts => by
    have eb : blk h2 t = m := by rw [← hb]; unfold blk; rw [ts, tv, hv]
    refine ⟨⟨t0, by rw [tv, ts]; exact b2, by rw [tv, ts]; exact b3, by rw [eb, tv]; exact hkm, ?_, ?_⟩, eb, prt_so ts⟩
    · show ((if vn t = k then (so x).toNat else kd (vn t) : Nat) : Int) = so t
      rw [if_pos tv, ts]; omega
    · rw [eb]
      intro j hj
      show (if k ≤ vn t + j ∧ vn t + j < k + m then k else _) = vn t
      rw [if_pos (by omega), tv]
  have szx : ∀ t : Int64, isH t → 0 ≤ va t → vn t = k → so t = so x → ∀ f c, (∀ j, prt x ≤ j → j < m → SZ h n ow kd Fv P f (h2 (k + j)) (c j)) → SZ h2 n (fun i => if k ≤ i ∧ i < k + m then k else ow i) (fun i => if i = k then (so x).toNat else kd i) Fv P (f + 1) t (m + smm c (prt x) (m - prt x)) := fun t th t0 tv ts f c hc => by
    obtain ⟨q1, q2, q3⟩ := bkt t th t0 tv ts
    exact Or.inr ⟨th, q1, c, by rw [q2, q3, tv]; exact fun j a b => ext _ _ _ (hc j a b), by rw [q2, q3]⟩
  obtain ⟨f0, c0, hc0⟩ := SZ_all (h := h) (n := n) (ow := ow) (kd := kd) (Fv := Fv) (P := P) (m := m - prt x) (q := fun j => h2 (k + (prt x + j))) (fun j hj => HP_sz g (hp (prt x + j) (by omega) (by omega)))
  have hc1 : ∀ j, prt x ≤ j → j < m → SZ h n ow kd Fv P f0 (h2 (k + j)) ((fun j => c0 (j - prt x)) j) := fun j h1 h2' => by
    have := hc0 (j - prt x) (by omega)
    rw [show prt x + (j - prt x) = j from by omega] at this
    exact this
  refine ⟨_, _, ho, hk, fun i hi => if_neg hi, ?_, BK_gt hx (bkt x hx h0 hv rfl).1, ext, szx x hx h0 hv rfl⟩
  intro t ht gt
  rcases gt with ⟨z, -⟩ | ⟨-, g1, g2, g3, g4⟩
  · exact absurd ht z
  by_cases e : vn t = k
  · have e2 : so t = so x := by
      have := g4
      simp only [if_pos e] at this
      omega
    have sz2 := szx t ht g1 e e2 f0 _ hc1
    obtain ⟨q1, q2, q3⟩ := bkt t ht g1 e e2
    refine ⟨_, _, sz2, fun h5 => ?_⟩
    rcases hs with ⟨s1, s2, s3⟩ | hs
    · exact ⟨by rw [e2]; exact s1, by rw [q2]; exact s2, by rw [e]; exact s3⟩
    · have := hs f0 _ hc1; omega
  · have e1 : ow (vn t) = vn t := by
      have := g3
      by_cases q : k ≤ vn t ∧ vn t < k + m
      · simp only [if_pos q] at this; omega
      · simp only [if_neg q] at this; exact this
    have e2 : (kd (vn t) : Int) = so t := by have := g4; simp only [if_neg e] at this; exact this
    have gt0 : GT n ow kd P t := Or.inr ⟨ht, g1, g2, e1, e2⟩
    obtain ⟨f, s, z1, z2⟩ := g t ht gt0
    refine ⟨f, s, ext _ _ _ z1, fun h5 => ?_⟩
    obtain ⟨r1, r2, r3⟩ := z2 h5
    have b := (HP_bk g ht gt0).1
    have b6 := b.2.2.2.2.2
    have b4 := b.2.2.2.1
    have o1 := b6 1 (by omega)
    refine ⟨r1, ?_, by rw [hh _ (out _ (by omega) (by omega))]; exact r3⟩
    have q2' := r2
    unfold blk at q2' ⊢
    rw [r1] at q2' ⊢
    simp at q2' ⊢
    rw [hh _ (out _ g2 (by omega))]; exact q2'
end
end
section
def GTP (Fv : Int64 → Int64 → Prop) (P : Int64 → Prop) (w : MS) (o : Nat) (t : Int64) : Prop := ∃ n ow kd, A w 89 o = ((n : Nat) : Int) ∧ n ≤ 500 ∧ HP (hp w o) n ow kd Fv P ∧ GT n ow kd P t
def TE (Fv : Int64 → Int64 → Prop) (P : Int64 → Prop) (w : MS) (PR o : Nat) (t : Int64) : Prop := (¬ isH t ∧ P t) ∨ (isH t ∧ (o = 24 ∨ (o < PR ∧ A w 109 o = 3)) ∧ GTP Fv P w o t)
def cE (w : MS) : Nat → Nat
  | 0 => 0
  | k + 1 => cE w k + (if A w 109 k = 3 then 1 else 0)
def EQ (Fv : Int64 → Int64 → Prop) (P : Int64 → Prop) (w : MS) (PR : Nat) : Prop := ∃ eF eM : Nat, F w 149 = eF ∧ F w 150 = eM ∧ eF ≤ eM ∧ eM ≤ cE w PR ∧ ∀ i, eF ≤ i → i < eM → (0 ≤ A w 145 i ∧ A w 145 i < PR) ∧ (0 ≤ A w 146 i ∧ A w 146 i ≤ 2) ∧ (0 ≤ A w 147 i ∧ A w 147 i ≤ 24) ∧ TE Fv P w PR (A w 147 i).toNat (w.2.2.2 148 i)
def PRC (Fv : Int64 → Int64 → Prop) (P : Int64 → Prop) (w : MS) (p : Nat) : Prop := ∃ n ow kd opM bnM bxM, A w 89 p = ((n : Nat) : Int) ∧ CX w p (hp w p) n ow kd Fv P opM bnM bxM
def DW (Fv : Int64 → Int64 → Prop) (P : Int64 → Prop) (PR : Nat) (w : MS) : Prop :=
  (F w 118 = PR ∧ PR ≤ 24) ∧ (∀ p, p < PR → PRC Fv P w p) ∧ (∃ n ow kd, A w 89 24 = ((n : Nat) : Int) ∧ n ≤ 500 ∧ HP (hp w 24) n ow kd Fv P) ∧ F w 140 = -1 ∧ EQ Fv P w PR ∧ (∀ p, p < PR → A w 109 p = 0 ∨ A w 109 p = 1 ∨ A w 109 p = 3 ∨ A w 109 p = 5)
theorem cE_le (w : MS) : ∀ k, cE w k ≤ k
  | 0 => Nat.le_refl _
  | k + 1 => by
    show cE w k + _ ≤ k + 1
    have := cE_le w k
    split <;> omega
theorem cE_eq {w w2 : MS} : ∀ k, (∀ p, p < k → A w2 109 p = A w 109 p) → cE w2 k = cE w k
  | 0, _ => rfl
  | k + 1, h => by
    show cE w2 k + _ = cE w k + _
    rw [cE_eq k (fun p hp => h p (by omega)), h k (by omega)]
theorem cE_up {w w2 : MS} {q : Nat} (hq : A w 109 q ≠ 3) (h1 : A w2 109 q = 3) (h2 : ∀ p, p ≠ q → A w2 109 p = A w 109 p) : ∀ k, q < k → cE w2 k = cE w k + 1
  | 0, h => absurd h (Nat.not_lt_zero _)
  | k + 1, h => by
    show cE w2 k + (if A w2 109 k = 3 then 1 else 0) = cE w k + (if A w 109 k = 3 then 1 else 0) + 1
    by_cases e : k = q
    · subst e
      rw [if_pos h1, if_neg hq, cE_eq k (fun p hp => h2 p (by omega))]
    · rw [cE_up hq h1 h2 k (by omega), h2 k e]; omega
section
variable {Fv : Int64 → Int64 → Prop} {P : Int64 → Prop} {w w2 : MS} {PR N : Nat}
theorem GTP_same {o : Nat} {t : Int64} (g : GTP Fv P w o t) (h1 : A w2 89 o = A w 89 o) (h2 : hp w2 o = hp w o) : GTP Fv P w2 o t := by
  obtain ⟨n, ow, kd, a, b, c, d⟩ := g
  exact ⟨n, ow, kd, by rw [h1]; exact a, b, by rw [h2]; exact c, d⟩
theorem PRC_same {p : Nat} (g : PRC Fv P w p) (h1 : A w2 89 p = A w 89 p) (h2 : hp w2 p = hp w p) (h3 : A w2 92 p = A w 92 p) (h4 : A w2 94 p = A w 94 p) (h5 : A w2 108 p = A w 108 p) (r1 : ∀ i, i < 46000 → w2.2.2.2 91 (46000 * p + i) = w.2.2.2 91 (46000 * p + i)) (r2 : ∀ i, i < 2500 → w2.2.2.2 93 (2500 * p + i) = w.2.2.2 93 (2500 * p + i)) (r3 : ∀ i, i < 30 → w2.2.2.2 107 (30 * p + i) = w.2.2.2 107 (30 * p + i)) (hh : F w2 140 ≠ p) : PRC Fv P w2 p := by
  obtain ⟨n, ow, kd, opM, bnM, bxM, a, x1, x2, x3, x4, x5, x6, x7, x8, x9, x10, x11⟩ := g
  exact ⟨n, ow, kd, opM, bnM, bxM, by rw [h1]; exact a, rfl, by rw [h2]; exact x2, x3, x4, by rw [h3]; exact x5, by rw [h4]; exact x6, by rw [h5]; exact x7, fun i hi => by rw [r1 i (by omega)]; exact x8 i hi, fun i hi => by rw [r2 i (by omega)]; exact x9 i hi, fun i hi => by rw [r3 i (by omega)]; exact x10 i hi, fun z => absurd z hh⟩
theorem DW_q {q : Nat} (d : DW Fv P PR w) (hq : q < PR) (hal : A w 109 q ≠ 3) (nq : PRC Fv P w2 q) (f : FR [136, 138, 140] [139] [89, 90, 92, 94, 108, 135, 142] [88, 91, 93, 107, 134, 137, 141] w w2) (f140 : F w2 140 = -1)
    (h89 : ∀ p, p ≠ q → A w2 89 p = A w 89 p) (h92 : ∀ p, p ≠ q → A w2 92 p = A w 92 p) (h94 : ∀ p, p ≠ q → A w2 94 p = A w 94 p) (h108 : ∀ p, p ≠ q → A w2 108 p = A w 108 p)
    (h88 : ∀ i, ¬ (500 * q ≤ i ∧ i < 500 * q + 500) → w2.2.2.2 88 i = w.2.2.2 88 i) (h91 : ∀ i, ¬ (46000 * q ≤ i ∧ i < 46000 * q + 46000) → w2.2.2.2 91 i = w.2.2.2 91 i) (h93 : ∀ i, ¬ (2500 * q ≤ i ∧ i < 2500 * q + 2500) → w2.2.2.2 93 i = w.2.2.2 93 i) (h107 : ∀ i, ¬ (30 * q ≤ i ∧ i < 30 * q + 30) → w2.2.2.2 107 i = w.2.2.2 107 i) : DW Fv P PR w2 := by
  obtain ⟨⟨d1, d1'⟩, d2, ⟨n4, ow4, kd4, d3a, d3b, d3c⟩, d4, d5, d6⟩ := d
  have n24 : q ≠ 24 := by omega
  have hpe : ∀ p, p ≠ q → A w2 89 p = A w 89 p → ∀ n, n ≤ 500 → True := fun _ _ _ _ _ => trivial
  have cell : ∀ p i, p ≠ q → i < 500 → hp w2 p i = hp w p i := fun p i hp1 hi => by
    unfold hp
    exact h88 _ (by omega)
  have hpHP : ∀ p, p ≠ q → ∀ n ow kd, n ≤ 500 → HP (hp w p) n ow kd Fv P → HP (hp w2 p) n ow kd Fv P := fun p hp1 n ow kd hn g =>
    HP_own g (Nat.le_refl _) (fun i hi _ => cell p i hp1 (by omega)) (fun _ _ _ => rfl) (fun _ _ _ => rfl) (fun i hi e => ⟨hi, e⟩)
  have gtp : ∀ o t, o ≠ q → GTP Fv P w o t → GTP Fv P w2 o t := fun o t ho ⟨n, ow, kd, a, b, c, e⟩ => ⟨n, ow, kd, by rw [h89 o ho]; exact a, b, hpHP o ho n ow kd b c, e⟩
  refine ⟨⟨by rw [FR.F f (by decide)]; exact d1, d1'⟩, fun p hp1 => ?_, ⟨n4, ow4, kd4, by rw [h89 24 (Ne.symm n24)]; exact d3a, d3b, hpHP 24 (Ne.symm n24) _ _ _ d3b d3c⟩, f140, ?_, fun p hp1 => by rw [FR.A f (by decide)]; exact d6 p hp1⟩
  · by_cases e : p = q
    · rw [e]; exact nq
    · obtain ⟨n, ow, kd, opM, bnM, bxM, a, x1, x2, x3, x4, x5, x6, x7, x8, x9, x10, x11⟩ := d2 p hp1
      exact ⟨n, ow, kd, opM, bnM, bxM, by rw [h89 p e]; exact a, rfl, hpHP p e _ _ _ x3 x2, x3, x4, by rw [h92 p e]; exact x5, by rw [h94 p e]; exact x6, by rw [h108 p e]; exact x7, fun i hi => by rw [h91 _ (by omega)]; exact x8 i hi, fun i hi => by rw [h93 _ (by omega)]; exact x9 i hi, fun i hi => by rw [h107 _ (by omega)]; exact x10 i hi, fun z => by omega⟩
  · obtain ⟨eF, eM, e1, e2, e3, e4, e5⟩ := d5
    refine ⟨eF, eM, by rw [FR.F f (by decide)]; exact e1, by rw [FR.F f (by decide)]; exact e2, e3, by rw [cE_eq PR (fun p _ => FR.A f (by decide))]; exact e4, fun i h1 h2 => ?_⟩
    obtain ⟨q1, q2, q3, q4⟩ := e5 i h1 h2
    rw [FR.A f (by decide), FR.A f (by decide), FR.A f (by decide), f.2.2.2 148 (by decide)]
    refine ⟨q1, q2, q3, ?_⟩
    rcases q4 with q4 | ⟨q4, q5, q6⟩
    · exact Or.inl q4
    · refine Or.inr ⟨q4, ?_, gtp _ _ (fun z => ?_) q6⟩
      · rw [FR.A f (by decide)]; exact q5
      · rcases q5 with q5 | ⟨q5, q7⟩
        · omega
        · rw [z] at q7; exact hal q7
end
end
section
def PB (P : Int64 → Prop) (PR : Nat) : Prop := (∀ a : Int, 0 ≤ a → a < 22 → P (mk 1 a)) ∧ (∀ p : Nat, p < PR → P (mk 4 p)) ∧ (∀ r : Int, -2147483648 ≤ r → r < 2147483648 → P (mk 2 r)) ∧ (∀ r : Int, -2147483648 ≤ r → r < 2147483648 → P (mk 0 r)) ∧ P (mk 6 0)
theorem A_ne {u : MS} {k i k2 i2 : Nat} {x : Int} (h : k2 ≠ k) : A (wa u k i x) k2 i2 = A u k2 i2 := by unfold A wa upA; simp only [if_neg h]
theorem A_eq {u : MS} {k i i2 : Nat} {x : Int} (h1 : -2147483648 ≤ x) (h2 : x < 2147483648) : A (wa u k i x) k i2 = if i2 = i then x else A u k i2 := by rw [A_wa h1 h2, if_pos rfl]
theorem nh_mk {s v : Int} (h : s = 0 ∨ s = 1 ∨ s = 2 ∨ s = 4 ∨ s = 6) : ¬ isH (mk s v) := by
  unfold isH
  rw [so_mk (by omega) (by omega)]
  omega
section
variable {Fv : Int64 → Int64 → Prop} {P : Int64 → Prop} {w0 w w2 : MS} {PR N q n n2 opM bnM bxM : Nat} {ow kd ow2 kd2 : Nat → Nat}
theorem willEnd_ok {p o : Nat} {wr : Int} {t : Int64} (d : DW Fv P PR w) (hp1 : p < PR) (hw : 0 ≤ wr ∧ wr ≤ 2) (ho : o ≤ 24) (ht : (¬ isH t ∧ P t) ∨ (isH t ∧ (o = 24 ∨ (o < PR ∧ (A w 109 o = 3 ∨ o = p))) ∧ GTP Fv P w o t)) :
    OK (fun w2 _ => DW Fv P PR w2 ∧ FR [150] [] [109, 145, 146, 147] [148] w w2 ∧ A w2 109 p = 3 ∧ ∀ z, z ≠ p → A w2 109 z = A w 109 z) (fm_M_willEnd N w (I p) (I wr) (I o) t) := by
  obtain ⟨⟨d1, d1'⟩, d2, d3, d4, ⟨eF, eM, e1, e2, e3, e4, e5⟩, d6⟩ := id d
  have hc := cE_le w PR
  unfold fm_M_willEnd fb_M_willEnd_0 fb_M_willEnd_68
  have hr := A_r w 109 p
  rw [inb_at (k := 109) (n := 24) rfl (by omega) (by omega) (by decide), ck_t, I_tn (by omega) (by omega), Int.toNat_natCast, I_A, show (3 : Int32) = I 3 from rfl, decE hr.1 hr.2 (by omega) (by omega)]
  by_cases e : A w 109 p = 3
  · rw [decide_eq_true e, br_tq]
    exact ok_some.mpr ⟨d, FR.rf, e, fun _ _ => rfl⟩
  rw [decide_eq_false e, br_fq, ck_t, lt_e, wa_e]
  rw [show (wa w 109 p 3).1 150 = I eM from I_F' e2, inb_at (k := 145) (n := 4000) rfl (by omega) (by omega) (by decide), ck_t, lt_e, I_tn (by omega) (by omega), Int.toNat_natCast, wa_e]
  rw [show (wa (wa w 109 p 3) 145 eM p).1 150 = I eM from I_F' e2, inb_at (k := 146) (n := 4000) rfl (by omega) (by omega) (by decide), ck_t, lt_e, I_tn (by omega) (by omega), Int.toNat_natCast, wa_e]
  rw [show (wa (wa (wa w 109 p 3) 145 eM p) 146 eM wr).1 150 = I eM from I_F' e2, inb_at (k := 147) (n := 4000) rfl (by omega) (by omega) (by decide), ck_t, lt_e, I_tn (by omega) (by omega), Int.toNat_natCast, wa_e]
  rw [show (wa (wa (wa (wa w 109 p 3) 145 eM p) 146 eM wr) 147 eM o).1 150 = I eM from I_F' e2, inb_at (k := 148) (n := 4000) rfl (by omega) (by omega) (by decide), ck_t, lt_e, I_tn (by omega) (by omega), Int.toNat_natCast, wj_e]
  rw [show (wj (wa (wa (wa (wa w 109 p 3) 145 eM p) 146 eM wr) 147 eM o) 148 eM t).1 150 = I eM from I_F' e2, lt_e, lit1q, I_add, wi_e]
  generalize hz : wi (wj (wa (wa (wa (wa w 109 p 3) 145 eM p) 146 eM wr) 147 eM o) 148 eM t) 150 ((eM : Int) + 1) = z
  have fz : FR [150] [] [109, 145, 146, 147] [148] w z := by rw [← hz]; exact FR.wi (FR.wj (FR.wa (FR.wa (FR.wa (FR.wa FR.rf (by decide)) (by decide)) (by decide)) (by decide)) (by decide)) (by decide)
  have a109 : ∀ i, A z 109 i = if i = p then 3 else A w 109 i := fun i => by
    rw [← hz, A_wi, A_wj, A_ne (by decide), A_ne (by decide), A_ne (by decide), A_eq (by omega) (by omega)]
  have a145 : ∀ i, A z 145 i = if i = eM then (p : Int) else A w 145 i := fun i => by
    rw [← hz, A_wi, A_wj, A_ne (by decide), A_ne (by decide), A_eq (by omega) (by omega), A_ne (by decide)]
  have a146 : ∀ i, A z 146 i = if i = eM then wr else A w 146 i := fun i => by
    rw [← hz, A_wi, A_wj, A_ne (by decide), A_eq (by omega) (by omega), A_ne (by decide), A_ne (by decide)]
  have a147 : ∀ i, A z 147 i = if i = eM then (o : Int) else A w 147 i := fun i => by
    rw [← hz, A_wi, A_wj, A_eq (by omega) (by omega), A_ne (by decide), A_ne (by decide), A_ne (by decide)]
  have j148 : ∀ i, z.2.2.2 148 i = if i = eM then t else w.2.2.2 148 i := fun i => by
    rw [← hz, J_wi, J_wj, if_pos rfl]; rfl
  have f150 : F z 150 = (eM : Int) + 1 := by rw [← hz, F_wi (by omega) (by omega), if_pos rfl]
  have hpz : ∀ x, hp z x = hp w x := fun x => by unfold hp; rw [fz.2.2.2 88 (by decide)]
  have gtp : ∀ x y, GTP Fv P w x y → GTP Fv P z x y := fun x y g => GTP_same g (FR.A fz (by decide)) (hpz x)
  refine ok_some.mpr ⟨⟨⟨by rw [FR.F fz (by decide)]; exact d1, d1'⟩, fun x hx => ?_, ?_, by rw [FR.F fz (by decide)]; exact d4, ?_, fun x hx => ?_⟩, fz, by rw [a109, if_pos rfl], fun x hx => by rw [a109, if_neg hx]⟩
  · refine PRC_same (d2 x hx) (FR.A fz (by decide)) (hpz x) (FR.A fz (by decide)) (FR.A fz (by decide)) (FR.A fz (by decide)) (fun i _ => by rw [fz.2.2.2 91 (by decide)]) (fun i _ => by rw [fz.2.2.2 93 (by decide)]) (fun i _ => by rw [fz.2.2.2 107 (by decide)]) ?_
    rw [FR.F fz (by decide), d4]; omega
  · obtain ⟨n4, ow4, kd4, a, b, c⟩ := d3
    exact ⟨n4, ow4, kd4, by rw [FR.A fz (by decide)]; exact a, b, by rw [hpz]; exact c⟩
  · refine ⟨eF, eM + 1, by rw [FR.F fz (by decide)]; exact e1, by rw [f150]; omega, by omega, ?_, fun i h1 h2 => ?_⟩
    · rw [cE_up (w := w) e (by rw [a109, if_pos rfl]) (fun x hx => by rw [a109, if_neg hx]) PR hp1]; omega
    · rw [a145, a146, a147, j148]
      by_cases ei : i = eM
      · rw [if_pos ei, if_pos ei, if_pos ei, if_pos ei]
        refine ⟨by omega, hw, by omega, ?_⟩
        rw [Int.toNat_natCast]
        rcases ht with ht | ⟨ht, h2', h3⟩
        · exact Or.inl ht
        · refine Or.inr ⟨ht, ?_, gtp _ _ h3⟩
          rcases h2' with h2' | ⟨h2', h4⟩
          · exact Or.inl h2'
          · refine Or.inr ⟨h2', ?_⟩
            rw [a109]
            by_cases e9 : o = p
            · rw [if_pos e9]
            · rw [if_neg e9]; rcases h4 with h4 | h4; exact h4; exact absurd h4 e9
      · rw [if_neg ei, if_neg ei, if_neg ei, if_neg ei]
        obtain ⟨q1, q2, q3, q4⟩ := e5 i h1 (by omega)
        refine ⟨q1, q2, q3, ?_⟩
        rcases q4 with q4 | ⟨q4, q5, q6⟩
        · exact Or.inl q4
        · refine Or.inr ⟨q4, ?_, gtp _ _ q6⟩
          rcases q5 with q5 | ⟨q5, q7⟩
          · exact Or.inl q5
          · refine Or.inr ⟨q5, ?_⟩
            rw [a109]
            split
            · rfl
            · exact q7
  · rw [a109]
    split
    · exact Or.inr (Or.inr (Or.inl rfl))
    · exact d6 x hx
def MQq (Fv : Int64 → Int64 → Prop) (P : Int64 → Prop) (w0 w : MS) (q n : Nat) (ow kd : Nat → Nat) (opM bnM bxM : Nat) : Prop :=
  A w 89 q = ((n : Nat) : Int) ∧ CX w q (hp w q) n ow kd Fv P opM bnM bxM ∧ FR [136, 138, 140] [139] [89, 90, 135, 142] [88, 91, 93, 107, 134, 137, 141] w0 w ∧ F w 140 = -1 ∧ (∀ p, p ≠ q → A w 89 p = A w0 89 p) ∧ (∀ i, ¬ (500 * q ≤ i ∧ i < 500 * q + 500) → w.2.2.2 88 i = w0.2.2.2 88 i) ∧ (∀ i, ¬ (46000 * q ≤ i ∧ i < 46000 * q + 46000) → w.2.2.2 91 i = w0.2.2.2 91 i) ∧ (∀ i, ¬ (2500 * q ≤ i ∧ i < 2500 * q + 2500) → w.2.2.2 93 i = w0.2.2.2 93 i) ∧ (∀ i, ¬ (30 * q ≤ i ∧ i < 30 * q + 30) → w.2.2.2 107 i = w0.2.2.2 107 i)
theorem MQ_dw (m : MQq Fv P w0 w q n ow kd opM bnM bxM) (d : DW Fv P PR w0) (hq : q < PR) (hal : A w0 109 q ≠ 3) : DW Fv P PR w := by
  obtain ⟨m1, m2, m3, m4, m5, m6, m7, m8, m9⟩ := m
  exact DW_q d hq hal ⟨n, ow, kd, opM, bnM, bxM, m1, m2⟩ (FR.mo m3 (fun _ z => z) (fun _ z => z) (by decide) (fun _ z => z)) m4 m5 (fun p _ => FR.A m3 (by decide)) (fun p _ => FR.A m3 (by decide)) (fun p _ => FR.A m3 (by decide)) m6 m7 m8 m9
theorem MQ_heap (m : MQq Fv P w0 w q n ow kd opM bnM bxM) (f : FR [] [] [89, 142] [88, 141] w w2) (h89 : A w2 89 q = ((n2 : Nat) : Int)) (h5 : n2 ≤ 500) (ho : ∀ p, p ≠ q → A w2 89 p = A w 89 p) (h88 : ∀ i, ¬ (500 * q ≤ i ∧ i < 500 * q + 500) → w2.2.2.2 88 i = w.2.2.2 88 i) (g : HP (hp w2 q) n2 ow2 kd2 Fv P) (hg : ∀ t, GT n ow kd P t → GT n2 ow2 kd2 P t) : MQq Fv P w0 w2 q n2 ow2 kd2 opM bnM bxM := by
  obtain ⟨m1, ⟨x1, x2, x3, x4, x5, x6, x7, x8, x9, x10, x11⟩, m3, m4, m5, m6, m7, m8, m9⟩ := m
  have f140 : F w2 140 = -1 := by rw [FR.F f (by decide)]; exact m4
  refine ⟨h89, ⟨rfl, g, h5, x4, by rw [FR.A f (by decide)]; exact x5, by rw [FR.A f (by decide)]; exact x6, by rw [FR.A f (by decide)]; exact x7, fun i hi => by rw [f.2.2.2 91 (by decide)]; exact hg _ (x8 i hi), fun i hi => by rw [f.2.2.2 93 (by decide)]; exact hg _ (x9 i hi), fun i hi => by rw [f.2.2.2 107 (by decide)]; exact hg _ (x10 i hi), fun z => by omega⟩, FR.tr m3 (FR.mo f (by decide) (by decide) (by decide) (by decide)), f140, fun p hp1 => by rw [ho p hp1]; exact m5 p hp1, fun i hi => by rw [h88 i hi]; exact m6 i hi, fun i hi => by rw [f.2.2.2 91 (by decide)]; exact m7 i hi, fun i hi => by rw [f.2.2.2 93 (by decide)]; exact m8 i hi, fun i hi => by rw [f.2.2.2 107 (by decide)]; exact m9 i hi⟩
theorem MQ_cell (m : MQq Fv P w0 w q n ow kd opM bnM bxM) {i : Nat} {t : Int64} (hi : i < n) (hn : i < ow i) : MQq Fv P w0 (wj w 88 (500 * q + i) t) q n ow kd opM bnM bxM := by
  have m' := m
  obtain ⟨m1, ⟨x1, x2, x3, x4, -⟩, -⟩ := m
  refine MQ_heap m' (FR.wj FR.rf (by decide)) m1 x3 (fun _ _ => rfl) (fun j hj => by rw [J_wj, if_pos rfl, if_neg (by omega)]) ?_ (fun _ z => z)
  refine HP_own x2 (Nat.le_refl _) (fun j hj ho => ?_) (fun _ _ _ => rfl) (fun _ _ _ => rfl) (fun j hj e => ⟨hj, e⟩)
  unfold hp
  rw [J_wj, if_pos rfl, if_neg (fun z => by have : j = i := by omega
                                            subst this; omega)]
theorem MQ_hole (m : MQq Fv P w0 w q n ow kd opM bnM bxM) (k : Nat) (hk : n + k ≤ 500) : MQq Fv P w0 (wa w 89 q ((n : Int) + k)) q (n + k) (owH n ow) kd opM bnM bxM := by
  have m' := m
  obtain ⟨m1, ⟨x1, x2, x3, x4, -⟩, -⟩ := m
  refine MQ_heap m' (FR.wa FR.rf (by decide)) (by rw [A_wa (by omega) (by omega), if_pos rfl, if_pos rfl]; omega) hk (fun p hp1 => by rw [A_wa (by omega) (by omega), if_pos rfl, if_neg hp1]) (fun _ _ => rfl) (HP_hole k x2 (fun _ _ => rfl)) (fun t z => GT_hole k z)
end
end
section
section
variable {Fv : Int64 → Int64 → Prop} {P : Int64 → Prop} {w0 w w2 : MS} {PR N q n n2 opM bnM bxM : Nat} {ow kd ow2 kd2 : Nat → Nat}
def SRC (Fv : Int64 → Int64 → Prop) (P : Int64 → Prop) (w : MS) (o q n : Nat) (x : Int64) (s : Nat) : Prop := o < 25 ∧ ∃ nS owS kdS f, nS ≤ 500 ∧ (o = q → nS ≤ n) ∧ HP (hp w o) nS owS kdS Fv P ∧ SZ (hp w o) nS owS kdS Fv P f x s
theorem SRC_st {o s : Nat} {x : Int64} (h : SRC Fv P w o q n x s) (h1 : o ≠ q → ∀ i, i < 500 → hp w2 o i = hp w o i) (h2 : o = q → ∀ i, i < n → hp w2 o i = hp w o i) (hn : n ≤ n2) : SRC Fv P w2 o q n2 x s := by
  obtain ⟨a, nS, owS, kdS, f, b, c, d, e⟩ := h
  have hc : ∀ i, i < nS → hp w2 o i = hp w o i := fun i hi => by
    by_cases z : o = q
    · exact h2 z i (by have := c z; omega)
    · exact h1 z i (by omega)
  exact ⟨a, nS, owS, kdS, f, b, fun z => by have := c z; omega, HP_own d (Nat.le_refl _) (fun i hi _ => hc i hi) (fun _ _ _ => rfl) (fun _ _ _ => rfl) (fun i hi e => ⟨hi, e⟩), SZ_ext (Nat.le_refl _) hc (fun _ _ => rfl) (fun _ _ => rfl) (fun _ _ q => q) (fun _ q => q) e⟩
theorem SRC_cell {o s i : Nat} {x t : Int64} (hq : q < 24) (hi5 : i < 500) (h : SRC Fv P w o q n x s) (hi : n ≤ i) (hn : n ≤ n2) : SRC Fv P (wj w 88 (500 * q + i) t) o q n2 x s :=
  SRC_st h (fun hz j hj => by unfold hp; rw [J_wj, if_pos rfl, if_neg (by omega)]) (fun hz j hj => by unfold hp; rw [J_wj, if_pos rfl, if_neg (by omega)]) hn
theorem SRC_nh {o : Nat} {x : Int64} (ho : o < 25) (h1 : ¬ isH x) (h2 : P x) : SRC Fv P w o q n x 0 :=
  ⟨ho, 0, fun _ => 1, fun _ => 0, 1, by omega, fun _ => Nat.zero_le _, fun t ht g => by
    rcases g with ⟨z, -⟩ | ⟨-, -, z, -⟩
    · exact absurd ht z
    · omega, Or.inl ⟨h1, h2, rfl⟩⟩
theorem cpMQ {o s : Nat} {x : Int64} (m : MQq Fv P w0 w q n ow kd opM bnM bxM) (h : SRC Fv P w o q n x s) (hs : n + s ≤ 500) (hN : 3000 ≤ N) :
    OK (fun w2 r => ∃ ow2 kd2 f, MQq Fv P w0 w2 q (n + s) ow2 kd2 opM bnM bxM ∧ (∀ i, i < n → hp w2 q i = hp w q i) ∧ (∀ z, z < n → ow2 z = ow z) ∧ SZ (hp w2 q) (n + s) ow2 kd2 Fv P f r s) (fm_M_copy N w (I o) x (I q)) := by
  have m' := m
  obtain ⟨m1, ⟨x1, x2, x3, x4, -⟩, -⟩ := m
  obtain ⟨a, nS, owS, kdS, f, b, c, d, e⟩ := h
  refine ok_mono (copy_ok (N := N) a (show q < 25 by omega) b hs c d e m1 hN) (fun w2 r hc => ?_)
  obtain ⟨c1, c2, c3, cc, st, src, oo, c4, c5⟩ := hc
  have cell : ∀ i, i < n → hp w2 q i = hp w q i := fun i hi => by unfold hp; exact c3 _ (by omega)
  obtain ⟨ow2, kd2, g1, g2, g3, g4, g5⟩ := CPI_end d x2 c4 cell
  refine ⟨ow2, kd2, f, MQ_heap m' c1 (by rw [c2, if_pos rfl]) hs (fun p hp1 => by rw [c2, if_neg hp1]) (fun i hi => c3 i (by omega)) g1 g2, cell, g5, g4 f r x s c5 e⟩
def MSG (Fv : Int64 → Int64 → Prop) (P : Int64 → Prop) (PR : Nat) (w0 : MS) (q : Nat) (w : MS) : Prop :=
  DW Fv P PR w ∧ FR [136, 138, 140, 150] [139] [89, 90, 108, 109, 135, 142, 145, 146, 147] [88, 91, 93, 107, 134, 137, 141, 148] w0 w ∧ (∀ p, p ≠ q → A w 109 p = A w0 109 p ∧ A w 108 p = A w0 108 p ∧ A w 89 p = A w0 89 p) ∧ (A w 109 q = A w0 109 q ∨ A w 109 q = 3) ∧ (∀ i, ¬ (500 * q ≤ i ∧ i < 500 * q + 500) → w.2.2.2 88 i = w0.2.2.2 88 i) ∧ (∀ i, ¬ (46000 * q ≤ i ∧ i < 46000 * q + 46000) → w.2.2.2 91 i = w0.2.2.2 91 i) ∧ (∀ i, ¬ (2500 * q ≤ i ∧ i < 2500 * q + 2500) → w.2.2.2 93 i = w0.2.2.2 93 i)
theorem box_ok {m0 : Int64} (m : MQq Fv P w0 w q n ow kd opM bnM bxM) (d : DW Fv P PR w0) (hq : q < PR) (hal : A w0 109 q ≠ 3) (hb : bxM < 30) (g : GT n ow kd P m0) : OK (fun w2 _ => MSG Fv P PR w0 q w2) (fb_M_message_406 N () w (I q) m0) := by
  have dw := MQ_dw m d hq hal
  have m' := m
  obtain ⟨m1, ⟨x1, x2, x3, x4, x5, x6, x7, x8, x9, x10, x11⟩, m3, m4, m5, m6, m7, m8, m9⟩ := m
  unfold fb_M_message_406
  rw [inb_at (k := 108) (n := 24) rfl (by omega) (by omega) (by decide), ck_t, I_tn (x := (q : Int)) (by omega) (by omega), Int.toNat_natCast, I_A' x7.1, show (30 : Int32) = I 30 from rfl, I_mul, I_add, inb_at (k := 107) (n := 720) rfl (by omega) (by omega) (by decide), ck_t, lt_e, I_tn (by omega) (by omega), show ((q : Int) * 30 + (bxM : Int)).toNat = 30 * q + bxM from by omega, wj_e, ck_t, ck_t, lt_e, show (wj w 107 (30 * q + bxM) m0).2.2.1 108 q = I bxM from I_A' x7.1, lit1q, I_add, wa_e]
  generalize hz : wa (wj w 107 (30 * q + bxM) m0) 108 q ((bxM : Int) + 1) = z
  have fz : FR [] [] [108] [107] w z := by rw [← hz]; exact FR.wa (FR.wj FR.rf (by decide)) (by decide)
  have a108 : ∀ i, A z 108 i = if i = q then (bxM : Int) + 1 else A w 108 i := fun i => by rw [← hz, A_eq (by omega) (by omega)]; rfl
  have j107 : ∀ i, z.2.2.2 107 i = if i = 30 * q + bxM then m0 else w.2.2.2 107 i := fun i => by rw [← hz, J_wa, J_wj, if_pos rfl]
  have f140 : F z 140 = -1 := by rw [FR.F fz (by decide)]; exact m4
  have hpz : hp z q = hp w q := by unfold hp; rw [fz.2.2.2 88 (by decide)]
  have alw : A w 109 q ≠ 3 := by rw [FR.A m3 (by decide)]; exact hal
  refine ok_some.mpr ⟨DW_q dw hq alw ⟨n, ow, kd, opM, bnM, bxM + 1, by rw [FR.A fz (by decide)]; exact m1, rfl, by rw [hpz]; exact x2, x3, x4, by rw [FR.A fz (by decide)]; exact x5, by rw [FR.A fz (by decide)]; exact x6, ⟨by rw [a108, if_pos rfl]; omega, by omega⟩, fun i hi => by rw [fz.2.2.2 91 (by decide)]; exact x8 i hi, fun i hi => by rw [fz.2.2.2 93 (by decide)]; exact x9 i hi, fun i hi => ?_, fun z => by omega⟩ (FR.mo fz (by decide) (by decide) (by decide) (by decide)) f140 (fun p _ => FR.A fz (by decide)) (fun p _ => FR.A fz (by decide)) (fun p _ => FR.A fz (by decide)) (fun p hp1 => by rw [a108, if_neg hp1]) (fun i _ => by rw [fz.2.2.2 88 (by decide)]) (fun i _ => by rw [fz.2.2.2 91 (by decide)]) (fun i _ => by rw [fz.2.2.2 93 (by decide)]) (fun i hi => by rw [j107, if_neg (by omega)]), FR.tr (FR.mo m3 (by decide) (by decide) (by decide) (by decide)) (FR.mo fz (by decide) (by decide) (by decide) (by decide)), fun p hp1 => ⟨by rw [FR.A fz (by decide), FR.A m3 (by decide)], by rw [a108, if_neg hp1, FR.A m3 (by decide)], by rw [FR.A fz (by decide)]; exact m5 p hp1⟩, Or.inl (by rw [FR.A fz (by decide), FR.A m3 (by decide)]), fun i hi => by rw [fz.2.2.2 88 (by decide)]; exact m6 i hi, fun i hi => by rw [fz.2.2.2 91 (by decide)]; exact m7 i hi, fun i hi => by rw [fz.2.2.2 93 (by decide)]; exact m8 i hi⟩
  rw [j107]
  by_cases e : i = bxM
  · subst e; rw [if_pos rfl]; exact g
  · rw [if_neg (by omega)]; exact x10 i (by omega)
def OUTB (P : Int64 → Prop) (w : MS) (q n : Nat) (ow : Nat → Nat) (k parts : Nat) : Prop := k + parts + 1 ≤ n ∧ (∀ j, j ≤ parts → k + j < ow (k + j)) ∧ HDP (hp w q k) parts ∧ (∀ j, 1 ≤ j → j < parts → ¬ isH (hp w q (k + j)) ∧ P (hp w q (k + j))) ∧ (parts = 3 ∨ parts = 4)
def CT (P : Int64 → Prop) (w : MS) (q n : Nat) (ow : Nat → Nat) (m0 : Int64) (at' : Int) (L : Nat) : Prop := (at' = -1 ∧ L = 0) ∨ ∃ k parts : Nat, at' = ((k + parts : Nat) : Int) ∧ m0 = mk 5 k ∧ OUTB P w q n ow k parts ∧ L = parts + 1
theorem CT_st {m0 : Int64} {at' : Int} {L : Nat} (c : CT P w q n ow m0 at' L) (h : ∀ i, i < n → hp w2 q i = hp w q i) (ho : ∀ i, i < n → ow2 i = ow i) (hn : n ≤ n2) : CT P w2 q n2 ow2 m0 at' L := by
  rcases c with c | ⟨k, parts, c1, c2, ⟨o1, o2, o3, o4, o5⟩, c3⟩
  · exact Or.inl c
  · refine Or.inr ⟨k, parts, c1, c2, ⟨by omega, fun j hj => by rw [ho _ (by omega)]; exact o2 j hj, by rw [h _ (by omega)]; exact o3, fun j h1 h2 => by rw [h _ (by omega)]; exact o4 j h1 h2, o5⟩, c3⟩
theorem m378_ok {m0 inner : Int64} {at' : Int} {L s f : Nat} (m : MQq Fv P w0 w q n ow kd opM bnM bxM) (d : DW Fv P PR w0) (hq : q < PR) (hal : A w0 109 q ≠ 3) (hb : bxM < 30) (c : CT P w q n ow m0 at' L) (z : SZ (hp w q) n ow kd Fv P f inner s) (hL : L + s ≤ 500) : OK (fun w2 _ => MSG Fv P PR w0 q w2) (fb_M_message_378 N () w (I q) m0 (I at') inner) := by
  have x3 := m.2.1.2.2.1
  have x4 := m.2.1.2.2.2.1
  unfold fb_M_message_378
  rcases c with ⟨c, -⟩ | ⟨k, parts, c1, c2, ⟨o1, o2, o3, o4, o5⟩, c3⟩
  · rw [c, litm1q, decE (by omega) (by omega) (by omega) (by omega), decide_eq_true rfl, br_tq]
    exact box_ok m d hq hal hb (SZ_gt z)
  · rw [c1, litm1q, decE (by omega) (by omega) (by omega) (by omega), decide_eq_false (by omega), br_fq, lit500, I_mul, I_add, inb_at (k := 88) (n := 12500) rfl (by omega) (by omega) (by decide), ck_t, lt_e, I_tn (by omega) (by omega), show ((q : Int) * 500 + ((k + parts : Nat) : Int)).toNat = 500 * q + (k + parts) from by omega, wj_e]
    have un := o2 parts (Nat.le_refl _)
    have mc := MQ_cell (t := inner) m (i := k + parts) (by omega) un
    have cell : ∀ i, hp (wj w 88 (500 * q + (k + parts)) inner) q i = if i = k + parts then inner else hp w q i := fun i => by
      unfold hp
      rw [J_wj, if_pos rfl]
      by_cases e : i = k + parts
      · rw [if_pos (by omega), if_pos e]
      · rw [if_neg (by omega), if_neg e]
    generalize hz : wj w 88 (500 * q + (k + parts)) inner = v at mc cell
    have own : ∀ i, i < n → ow i ≤ i → hp v q i = hp w q i := fun i _ hi => by rw [cell, if_neg (fun e => by subst e; omega)]
    have zv : SZ (hp v q) n ow kd Fv P f inner s := SZ_own (Nat.le_refl _) own (fun _ _ _ => rfl) (fun _ _ _ => rfl) (fun _ _ q => q) (fun _ q => q) z
    have e5 : so (mk 5 (k : Int)) = 5 := so_mk (by omega) (by omega)
    have v5 : va (mk 5 (k : Int)) = k := va_mk (by omega) (by omega)
    have n5 : vn (mk 5 (k : Int)) = k := by unfold vn; rw [v5]; omega
    have ck0 : hp v q k = hp w q k := by rw [cell, if_neg (by omega)]
    have bb : blk (hp v q) (mk 5 (k : Int)) = parts + 1 := by unfold blk; rw [e5, n5, ck0]; simp; unfold vn; rw [o3.1]; omega
    have pp : prt (mk 5 (k : Int)) = 1 := by unfold prt; rw [e5]; rfl
    have lst : hp v q (k + parts) = inner := by rw [cell, if_pos rfl]
    have mid : ∀ j, 1 ≤ j → j < parts → ¬ isH (hp v q (k + j)) ∧ P (hp v q (k + j)) := fun j h1 h2 => by rw [cell, if_neg (by omega)]; exact o4 j h1 h2
    obtain ⟨ow2, kd2, p1, p2, p3, p4, p5, p6, -⟩ := HP_put mc.2.1.2.1 (h2 := hp v q) (m := parts + 1) (k := k) (x := mk 5 (k : Int)) (fun _ _ => rfl) (by omega) (fun j hj => o2 j (by omega)) (Or.inr (Or.inl e5)) (by omega) n5 bb (fun _ => by rw [ck0]; exact ⟨by rw [o3.1]; omega, o3.2⟩) (fun e => by omega) (fun j h1 h2 => by
      rw [pp] at h1
      by_cases e : j = parts
      · rw [e, lst]; exact SZ_gt zv
      · exact Or.inl (mid j h1 (by omega))) (Or.inr (fun f2 c2 hc => by
      rw [pp] at hc ⊢
      have z0 : ∀ j, 1 ≤ j → j < parts → c2 j = 0 := fun j h1 h2 => by
        have := hc j h1 (by omega)
        cases f2 with
        | zero => exact this.elim
        | succ f2 =>
          rcases this with ⟨-, -, y⟩ | ⟨y, -⟩
          · exact y
          · exact absurd y (mid j h1 h2).1
      have zl : c2 parts = s := by
        have := hc parts (by omega) (by omega)
        rw [lst] at this
        exact SZ_fun this zv
      rcases o5 with e | e
      · subst e
        show 3 + 1 + (0 + c2 (1 + 0) + c2 (1 + 1) + c2 (1 + 2)) ≤ 500
        rw [show c2 (1 + 0) = 0 from z0 1 (by omega) (by omega), show c2 (1 + 1) = 0 from z0 2 (by omega) (by omega), show c2 (1 + 2) = s from zl]; omega
      · subst e
        show 4 + 1 + (0 + c2 (1 + 0) + c2 (1 + 1) + c2 (1 + 2) + c2 (1 + 3)) ≤ 500
        rw [show c2 (1 + 0) = 0 from z0 1 (by omega) (by omega), show c2 (1 + 1) = 0 from z0 2 (by omega) (by omega), show c2 (1 + 2) = 0 from z0 3 (by omega) (by omega), show c2 (1 + 3) = s from zl]; omega))
    have m2 : MQq Fv P w0 v q n ow2 kd2 opM bnM bxM := MQ_heap mc FR.rf mc.1 x3 (fun _ _ => rfl) (fun _ _ => rfl) p4 (fun t g => GT_own g (Nat.le_refl _) p1 p2)
    rw [c2]
    exact box_ok m2 d hq hal hb p5
end
end
section
section
variable {Fv : Int64 → Int64 → Prop} {P : Int64 → Prop} {w0 w w2 : MS} {PR N q n n2 opM bnM bxM : Nat} {ow kd ow2 kd2 : Nat → Nat}
theorem hp_wj {w : MS} {q k i : Nat} {t : Int64} : hp (wj w 88 (500 * q + k) t) q i = if i = k then t else hp w q i := by
  unfold hp
  rw [J_wj, if_pos rfl]
  by_cases e : i = k
  · rw [if_pos (by omega), if_pos e]
  · rw [if_neg (by omega), if_neg e]
theorem isK_88 : isK 88 5 = true := by decide
theorem m328_ok {m0 x : Int64} {at' at0 : Int} {L o s : Nat} (m : MQq Fv P w0 w q (n + 3) ow kd opM bnM bxM) (d : DW Fv P PR w0) (hq : q < PR) (hal : A w0 109 q ≠ 3) (hb : bxM < 30) (hPB : PB P PR) (c : CT P w q n ow m0 at' L) (hs : SRC Fv P w o q n x s) (hL : L + (3 + s) ≤ 500) (hn : n + 3 + s ≤ 500) (hun : ∀ j, j < 3 → n + j < ow (n + j)) (hhd : hp w q n = 2) (ha : 0 ≤ at0 ∧ at0 < 22) (hN : 3000 ≤ N) :
    OK (fun w2 _ => MSG Fv P PR w0 q w2) (fb_M_message_328 N () w (I q) (I o) x m0 (I at') (I n) 88 ((((I q) * 500) + (I n)) + 1) 1 (I at0)) := by
  have x4 := m.2.1.2.2.2.1
  unfold fb_M_message_328
  rw [lit1q, term_e, bnd_so, isK_88, ck_t, lit500, I_mul, I_add, I_add, inb_at (k := 88) (n := 12500) rfl (by omega) (by omega) (by decide), ck_t, lt_e, I_tn (by omega) (by omega), show ((q : Int) * 500 + (n : Int) + 1).toNat = 500 * q + (n + 1) from by omega, wj_e]
  have m1 := MQ_cell (t := mk 1 at0) m (i := n + 1) (by omega) (hun 1 (by omega))
  have s1 := SRC_cell (t := mk 1 at0) (i := n + 1) x4 (by omega) hs (by omega) (show n ≤ n + 3 by omega)
  have c1 : CT P (wj w 88 (500 * q + (n + 1)) (mk 1 at0)) q n ow m0 at' L := CT_st c (fun i hi => by rw [hp_wj, if_neg (by omega)]) (fun _ _ => rfl) (Nat.le_refl _)
  have h0 : hp (wj w 88 (500 * q + (n + 1)) (mk 1 at0)) q n = 2 := by rw [hp_wj, if_neg (by omega)]; exact hhd
  have h1 : hp (wj w 88 (500 * q + (n + 1)) (mk 1 at0)) q (n + 1) = mk 1 at0 := by rw [hp_wj, if_pos rfl]
  generalize wj w 88 (500 * q + (n + 1)) (mk 1 at0) = v at *
  refine ok_bnd.mpr (ok_mono (cpMQ m1 s1 hn hN) (fun v2 r hc => ?_))
  obtain ⟨ow2, kd2, f, m2, e2, o2, z2⟩ := hc
  rw [show (2 : Int32) = I 2 from rfl, I_add, inb_at (k := 88) (n := 12500) rfl (by omega) (by omega) (by decide), ck_t, lt_e, I_tn (by omega) (by omega), show ((q : Int) * 500 + (n : Int) + 2).toNat = 500 * q + (n + 2) from by omega, wj_e, show (5 : Int32) = I 5 from rfl, term_e, bnd_so]
  have un2 : n + 2 < ow2 (n + 2) := by rw [o2 _ (by omega)]; exact hun 2 (by omega)
  have m3 := MQ_cell (t := r) m2 (i := n + 2) (by omega) un2
  have k0 : hp (wj v2 88 (500 * q + (n + 2)) r) q n = 2 := by rw [hp_wj, if_neg (by omega), e2 _ (by omega)]; exact h0
  have k1 : hp (wj v2 88 (500 * q + (n + 2)) r) q (n + 1) = mk 1 at0 := by rw [hp_wj, if_neg (by omega), e2 _ (by omega)]; exact h1
  have k2 : hp (wj v2 88 (500 * q + (n + 2)) r) q (n + 2) = r := by rw [hp_wj, if_pos rfl]
  have z3 : SZ (hp (wj v2 88 (500 * q + (n + 2)) r) q) (n + 3 + s) ow2 kd2 Fv P f r s := SZ_own (Nat.le_refl _) (fun i hi ho => by rw [hp_wj, if_neg (fun e => by subst e; omega)]) (fun _ _ _ => rfl) (fun _ _ _ => rfl) (fun _ _ q => q) (fun _ q => q) z2
  have c3 : CT P (wj v2 88 (500 * q + (n + 2)) r) q n ow2 m0 at' L := CT_st c1 (fun i hi => by rw [hp_wj, if_neg (by omega), e2 _ (by omega)]) (fun i hi => o2 i (by omega)) (Nat.le_refl _)
  generalize wj v2 88 (500 * q + (n + 2)) r = y at *
  have e5 : so (mk 5 (n : Int)) = 5 := so_mk (by omega) (by omega)
  have v5 : va (mk 5 (n : Int)) = n := va_mk (by omega) (by omega)
  have n5 : vn (mk 5 (n : Int)) = n := by unfold vn; rw [v5]; omega
  have va2 : va (2 : Int64) = 2 := by decide
  have bb : blk (hp y q) (mk 5 (n : Int)) = 3 := by unfold blk; rw [e5, n5, k0]; simp; unfold vn; rw [va2]; decide
  have pp : prt (mk 5 (n : Int)) = 1 := by unfold prt; rw [e5]; rfl
  have na : ¬ isH (mk 1 at0) := nh_mk (by omega)
  obtain ⟨ow3, kd3, p1, p2, p3, p4, p5, p6, p7⟩ := HP_put m3.2.1.2.1 (h2 := hp y q) (m := 3) (k := n) (x := mk 5 (n : Int)) (fun _ _ => rfl) (by omega) (fun j hj => by rw [o2 _ (by omega)]; exact hun j hj) (Or.inr (Or.inl e5)) (by omega) n5 bb (fun _ => by rw [k0]; exact HDC2) (fun e => by omega) (fun j h1 h2 => by
    rw [pp] at h1
    by_cases e : j = 1
    · rw [e, k1]; exact Or.inl ⟨na, hPB.1 _ ha.1 ha.2⟩
    · have e2 : j = 2 := by omega
      rw [e2, k2]; exact SZ_gt z3) (Or.inl ⟨e5, rfl, by rw [k1]; exact na⟩)
  have m4 : MQq Fv P w0 y q (n + 3 + s) ow3 kd3 opM bnM bxM := MQ_heap m3 FR.rf m3.1 hn (fun _ _ => rfl) (fun _ _ => rfl) p4 (fun t g => GT_own g (Nat.le_refl _) p1 p2)
  have f1 : 1 ≤ f := by cases f with | zero => exact z3.elim | succ f => omega
  have zin := p7 f (fun j => if j = 2 then s else 0) (fun j h1 h2 => by
    rw [pp] at h1
    by_cases e : j = 1
    · rw [e, k1]; simp only [show ¬ (1 = 2) by decide, if_false]
      obtain ⟨f', rfl⟩ : ∃ f', f = f' + 1 := ⟨f - 1, by omega⟩
      exact Or.inl ⟨na, hPB.1 _ ha.1 ha.2, rfl⟩
    · have e2 : j = 2 := by omega
      rw [e2, k2]; simp only [if_true]; exact z3)
  rw [pp] at zin
  have es : 3 + smm (fun j => if j = 2 then s else 0) 1 (3 - 1) = 3 + s := by show 3 + (0 + (if 1 + 0 = 2 then s else 0) + (if 1 + 1 = 2 then s else 0)) = _; simp
  rw [es] at zin
  exact m378_ok m4 d hq hal hb (CT_st c3 (fun _ _ => rfl) (fun i hi => p3 i (by omega)) (by omega)) zin hL
theorem m261_ok {m0 x : Int64} {at' wr : Int} {L o s : Nat} (m : MQq Fv P w0 w q n ow kd opM bnM bxM) (d : DW Fv P PR w0) (hq : q < PR) (hal : A w0 109 q ≠ 3) (hb : bxM < 30) (hPB : PB P PR) (c : CT P w q n ow m0 at' L) (hs : SRC Fv P w o q n x s) (hw : 0 ≤ wr ∧ wr ≤ 2) (hL : L + ((if 0 < wr then 3 else 0) + s) ≤ 500) (hn : n + ((if 0 < wr then 3 else 0) + s) ≤ 500) (hN : 3000 ≤ N) :
    OK (fun w2 _ => MSG Fv P PR w0 q w2) (fb_M_message_261 N () w (I q) (I wr) (I o) x m0 (I at')) := by
  have x4 := m.2.1.2.2.2.1
  have m1 := m.1
  unfold fb_M_message_261
  rw [lit0q, decI (by omega) (by omega) (by omega) (by omega)]
  by_cases e : wr ≤ 0
  · rw [if_neg (by omega)] at hL hn
    rw [decide_eq_true e, br_tq]
    refine ok_bnd.mpr (ok_mono (cpMQ m hs (by omega) hN) (fun v2 r hc => ?_))
    obtain ⟨ow2, kd2, f, m2, e2, o2, z2⟩ := hc
    exact m378_ok m2 d hq hal hb (CT_st c (fun i hi => e2 i hi) (fun i hi => o2 i hi) (by omega)) z2 (by omega)
  · rw [if_pos (by omega)] at hL hn
    rw [decide_eq_false e, br_fq, inb_at (k := 89) (n := 25) rfl (by omega) (by omega) (by decide), ck_t, ck_t, ck_t, lt_e, I_tn (x := (q : Int)) (by omega) (by omega), Int.toNat_natCast, I_A' m1, show (3 : Int32) = I 3 from rfl, I_add, wa_e, lit500, I_mul, I_add, inb_at (k := 88) (n := 12500) rfl (by omega) (by omega) (by decide), ck_t, lt_e, I_tn (by omega) (by omega), show ((q : Int) * 500 + (n : Int)).toNat = 500 * q + n from by omega, wj_e, lit1q, decE (by omega) (by omega) (by omega) (by omega)]
    have mh := MQ_hole m 3 (by omega)
    have mc := MQ_cell (t := 2) mh (i := n) (by omega) (by unfold owH; rw [if_pos (by omega)]; omega)
    have s1 : SRC Fv P (wa w 89 q ((n : Int) + 3)) o q n x s := hs
    have s2 := SRC_cell (t := 2) (i := n) x4 (by omega) s1 (Nat.le_refl _) (Nat.le_refl _)
    have cc : CT P (wj (wa w 89 q ((n : Int) + 3)) 88 (500 * q + n) 2) q n (owH n ow) m0 at' L := CT_st c (fun i hi => by rw [hp_wj, if_neg (by omega)]; rfl) (fun i hi => if_neg (by omega)) (Nat.le_refl _)
    have hd : hp (wj (wa w 89 q ((n : Int) + 3)) 88 (500 * q + n) 2) q n = 2 := by rw [hp_wj, if_pos rfl]
    have un : ∀ j, j < 3 → n + j < owH n ow (n + j) := fun j hj => by unfold owH; rw [if_pos (by omega)]; omega
    have arg : I ((q : Int) * 500 + (n : Int)) + I 1 = (((I q) * 500) + (I n)) + 1 := by rw [lit500, lit1q, I_mul, I_add, I_add, I_add]
    rw [arg, ← lit1q]
    by_cases e1 : wr = 1
    · rw [decide_eq_true e1, br_tq]
      exact m328_ok (at0 := 7) mc d hq hal hb hPB cc s2 hL (by omega) un hd (by omega) hN
    · rw [decide_eq_false e1, br_fq]
      exact m328_ok (at0 := 19) mc d hq hal hb hPB cc s2 hL (by omega) un hd (by omega) hN
theorem m222_ok {x : Int64} {wr : Int} {o s p k parts : Nat} (m : MQq Fv P w0 w q n ow kd opM bnM bxM) (d : DW Fv P PR w0) (hq : q < PR) (hal : A w0 109 q ≠ 3) (hb : bxM < 30) (hPB : PB P PR) (hp1 : p < PR) (hk : k + parts + 1 = n) (hun : ∀ j, j ≤ parts → k + j < ow (k + j)) (hhd : HDP (hp w q k) parts) (hmid : ∀ j, 1 ≤ j → j + 1 < parts → ¬ isH (hp w q (k + j)) ∧ P (hp w q (k + j))) (hpt : parts = 3 ∨ parts = 4) (hs : SRC Fv P w o q k x s) (hw : 0 ≤ wr ∧ wr ≤ 2) (hn : n + ((if 0 < wr then 3 else 0) + s) ≤ 500) (hN : 3000 ≤ N) :
    OK (fun w2 _ => MSG Fv P PR w0 q w2) (fb_M_message_222 N () w (I q) (I p) (I wr) (I o) x (I k) (I parts)) := by
  have x4 := m.2.1.2.2.2.1
  have pr := d.1.2
  unfold fb_M_message_222
  rw [show (4 : Int32) = I 4 from rfl, term_e, bnd_so, lit500, I_mul, I_add, I_add, lit1q, I_sub, inb_at (k := 88) (n := 12500) rfl (by omega) (by omega) (by decide), ck_t, lt_e, I_tn (by omega) (by omega), show ((q : Int) * 500 + (k : Int) + (parts : Int) - 1).toNat = 500 * q + (k + (parts - 1)) from by omega, wj_e, show (5 : Int32) = I 5 from rfl, term_e, bnd_so, I_add]
  have mc := MQ_cell (t := mk 4 p) m (i := k + (parts - 1)) (by omega) (hun _ (by omega))
  have s1 := SRC_cell (t := mk 4 p) (i := k + (parts - 1)) (n2 := n) x4 (by omega) hs (by omega) (by omega)
  have cc : CT P (wj w 88 (500 * q + (k + (parts - 1))) (mk 4 p)) q n ow (mk 5 k) ((k : Int) + (parts : Int)) (parts + 1) := by
    refine Or.inr ⟨k, parts, by omega, rfl, ⟨by omega, hun, by rw [hp_wj, if_neg (by omega)]; exact hhd, fun j h1 h2 => ?_, hpt⟩, rfl⟩
    rw [hp_wj]
    by_cases e : j = parts - 1
    · rw [if_pos (by omega)]; exact ⟨nh_mk (by omega), hPB.2.1 p hp1⟩
    · rw [if_neg (by omega)]; exact hmid j h1 (by omega)
  exact m261_ok mc d hq hal hb hPB cc s1 hw (by omega) hn hN
end
section
variable {Fv : Int64 → Int64 → Prop} {P : Int64 → Prop} {w0 w w2 : MS} {PR N q n n2 opM bnM bxM : Nat} {ow kd ow2 kd2 : Nat → Nat}
theorem hdp_nat {k : Nat} (h : k < 100) : HDP ((I (k : Int)).toInt64) k := by
  have e : (I (k : Int)).toInt = k := I_ti (by omega) (by omega)
  have e2 : va ((I (k : Int)).toInt64) = k := by unfold va; rw [Int32.toInt32_toInt64]; exact e
  exact ⟨e2, by rw [e2, Int32.toInt_toInt64]; exact e⟩
theorem va_nat {k : Nat} (h : k < 100) : va ((I (k : Int)).toInt64) = k := by
  unfold va
  rw [Int32.toInt32_toInt64, I_ti (by omega) (by omega)]
theorem m136_ok {x : Int64} {r wr : Int} {o s p parts sort : Nat} (m : MQq Fv P w0 w q n ow kd opM bnM bxM) (d : DW Fv P PR w0) (hq : q < PR) (hal : A w0 109 q ≠ 3) (hb : bxM < 30) (hPB : PB P PR) (hp1 : p < PR) (hr : -2147483648 ≤ r ∧ r < 2147483648) (hpt : (sort = 0 ∧ parts = 3) ∨ (sort = 1 ∧ parts = 4)) (hs : SRC Fv P w o q n x s) (hw : 0 ≤ wr ∧ wr ≤ 2) (hn : n + (parts + 1) + ((if 0 < wr then 3 else 0) + s) ≤ 500) (hN : 3000 ≤ N) :
    OK (fun w2 _ => MSG Fv P PR w0 q w2) (fb_M_message_136 N () w (I q) (I sort) (I r) (I p) (I wr) (I o) x (I n) (I parts)) := by
  have x4 := m.2.1.2.2.2.1
  have m1 := m.1
  have pr := d.1.2
  unfold fb_M_message_136
  rw [inb_at (k := 89) (n := 25) rfl (by omega) (by omega) (by decide), ck_t, ck_t, lt_e, I_tn (x := (q : Int)) (by omega) (by omega), Int.toNat_natCast, I_A' m1, lit1q, I_add, I_add, wa_e, lit500, I_mul, I_add, inb_at (k := 88) (n := 12500) rfl (by omega) (by omega) (by decide), ck_t, lt_e, I_tn (by omega) (by omega), show ((q : Int) * 500 + (n : Int)).toNat = 500 * q + n from by omega, wj_e, lit0q, decE (by omega) (by omega) (by omega) (by omega)]
  have mh := MQ_hole m (parts + 1) (by omega)
  rw [show (n : Int) + ((parts + 1 : Nat) : Int) = (n : Int) + ((parts : Int) + 1) from by omega] at mh
  have mc := MQ_cell (t := (I (parts : Int)).toInt64) mh (i := n) (by omega) (by unfold owH; rw [if_pos (by omega)]; omega)
  have s1 : SRC Fv P (wa w 89 q ((n : Int) + ((parts : Int) + 1))) o q n x s := hs
  have s2 := SRC_cell (t := (I (parts : Int)).toInt64) (i := n) x4 (by omega) s1 (Nat.le_refl _) (Nat.le_refl _)
  have hd : HDP (hp (wj (wa w 89 q ((n : Int) + ((parts : Int) + 1))) 88 (500 * q + n) ((I (parts : Int)).toInt64)) q n) parts := by rw [hp_wj, if_pos rfl]; exact hdp_nat (by omega)
  generalize wj (wa w 89 q ((n : Int) + ((parts : Int) + 1))) 88 (500 * q + n) ((I (parts : Int)).toInt64) = v at *
  have un : ∀ j, n + j < owH n ow (n + j) := fun j => by unfold owH; rw [if_pos (by omega)]; omega
  have cont : ∀ a : Int, 0 ≤ a → a < 22 → OK (fun w2 _ => MSG Fv P PR w0 q w2) (fb_M_message_193 N () v (I q) (I sort) (I r) (I p) (I wr) (I o) x (I n) (I parts) 88 (I ((q : Int) * 500 + (n : Int)) + I 1) (I 1) (I a)) := by
    intro a a1 a2
    unfold fb_M_message_193
    rw [term_e, bnd_so, isK_88, ck_t, I_add, inb_at (k := 88) (n := 12500) rfl (by omega) (by omega) (by decide), ck_t, lt_e, I_tn (by omega) (by omega), show ((q : Int) * 500 + (n : Int) + 1).toNat = 500 * q + (n + 1) from by omega, wj_e]
    have md := MQ_cell (t := mk 1 a) mc (i := n + 1) (by omega) (un 1)
    have s3 := SRC_cell (t := mk 1 a) (i := n + 1) (n2 := n) x4 (by omega) s2 (by omega) (Nat.le_refl _)
    have hd2 : HDP (hp (wj v 88 (500 * q + (n + 1)) (mk 1 a)) q n) parts := by rw [hp_wj, if_neg (by omega)]; exact hd
    have h1 : hp (wj v 88 (500 * q + (n + 1)) (mk 1 a)) q (n + 1) = mk 1 a := by rw [hp_wj, if_pos rfl]
    generalize wj v 88 (500 * q + (n + 1)) (mk 1 a) = y at *
    rw [lit1q, decE (by omega) (by omega) (by omega) (by omega)]
    rcases hpt with ⟨e1, e2⟩ | ⟨e1, e2⟩
    · subst e1; subst e2
      rw [decide_eq_false (by omega), br_fq]
      exact m222_ok (k := n) (parts := 3) md d hq hal hb hPB hp1 (by omega) (fun j hj => un j) hd2 (fun j h1' h2 => by
        have : j = 1 := by omega
        rw [this, h1]; exact ⟨nh_mk (by omega), hPB.1 a a1 a2⟩) (Or.inl rfl) s3 hw (by omega) hN
    · subst e1; subst e2
      rw [decide_eq_true (by omega), br_tq, show (2 : Int32) = I 2 from rfl, term_e, bnd_so, lit500, I_mul, I_add, I_add, inb_at (k := 88) (n := 12500) rfl (by omega) (by omega) (by decide), ck_t, lt_e, I_tn (by omega) (by omega), show ((q : Int) * 500 + (n : Int) + 2).toNat = 500 * q + (n + 2) from by omega, wj_e]
      have me := MQ_cell (t := mk 2 r) md (i := n + 2) (by omega) (un 2)
      have s4 := SRC_cell (t := mk 2 r) (i := n + 2) (n2 := n) x4 (by omega) s3 (by omega) (Nat.le_refl _)
      exact m222_ok (k := n) (parts := 4) me d hq hal hb hPB hp1 (by omega) (fun j hj => un j) (by rw [hp_wj, if_neg (by omega)]; exact hd2) (fun j h1' h2 => by
        rw [hp_wj]
        by_cases e : j = 2
        · rw [if_pos (by omega)]; exact ⟨nh_mk (by omega), hPB.2.2.1 r hr.1 hr.2⟩
        · have : j = 1 := by omega
          rw [if_neg (by omega), this, h1]; exact ⟨nh_mk (by omega), hPB.1 a a1 a2⟩) (Or.inr rfl) s4 hw (by omega) hN
  refine ok_br.mpr ⟨fun _ => cont 8 (by omega) (by omega), fun _ => cont 9 (by omega) (by omega)⟩
def TM (Fv : Int64 → Int64 → Prop) (P : Int64 → Prop) (w : MS) (q o : Nat) (t : Int64) : Prop := (o < 25 ∧ ¬ isH t ∧ P t) ∨ (o < 25 ∧ o ≠ q ∧ GTP Fv P w o t) ∨ (o = q ∧ ∃ n ow kd opM bnM bxM, A w 89 q = ((n : Nat) : Int) ∧ CX w q (hp w q) n ow kd Fv P opM bnM bxM ∧ GT n ow kd P t)
end
end
section
section
variable {Fv : Int64 → Int64 → Prop} {P : Int64 → Prop} {w0 : MS} {PR N q : Nat}
theorem HP_none {h : Nat → Int64} : HP h 0 (fun _ => 1) (fun _ => 0) Fv P := fun t ht g => by
  rcases g with ⟨z, -⟩ | ⟨-, -, z, -⟩
  · exact absurd ht z
  · omega
theorem RTS_out {u w : MS} {fd : Int64 → Int64} {R : Int64 → Prop} {K b M S : Nat} (r : RTS u w fd R K b M) (hM : M ≤ S) {i : Nat} (hi : ¬ (b ≤ i ∧ i < b + S)) : w.2.2.2 K i = u.2.2.2 K i := (r i).2 (by omega)
theorem m50_ok {o sort p : Nat} {t : Int64} {r wr : Int} (d : DW Fv P PR w0) (hq : q < PR) (hal : A w0 109 q ≠ 3) (hbx : A w0 108 q ≠ 30) (hPB : PB P PR) (hsort : sort ≤ 2) (hp1 : sort < 2 → p < PR) (hr : -2147483648 ≤ r ∧ r < 2147483648) (hpr : -2147483648 ≤ (p : Int) ∧ (p : Int) < 2147483648) (hw : 0 ≤ wr ∧ wr ≤ 2) (ht : TM Fv P w0 q o t) (hN : 60000 ≤ N) :
    OK (fun w2 _ => MSG Fv P PR w0 q w2) (fb_M_message_50 N () w0 (I q) (I sort) (I r) (I p) (I wr) (I o) t (I (if sort = 0 then 4 else if sort = 1 then 5 else 0)) (I (if 0 < wr then 3 else 0))) := by
  have pr := d.1.2
  obtain ⟨n, ow, kd, opM, bnM, bxM, hn, cx⟩ : PRC Fv P w0 q := d.2.1 q hq
  obtain ⟨ho, nS, owS, kdS, f, s, hS5, hS, zS, n', ow', kd', opM', bnM', bxM', hn', cx', hand⟩ : o < 25 ∧ ∃ nS owS kdS f s, nS ≤ 500 ∧ HP (hp w0 o) nS owS kdS Fv P ∧ SZ (hp w0 o) nS owS kdS Fv P f t s ∧ ∃ n ow kd opM bnM bxM, A w0 89 q = ((n : Nat) : Int) ∧ CX w0 q (hp w0 q) n ow kd Fv P opM bnM bxM ∧ (o = q → GT n ow kd P t ∧ (isH t → nS = n ∧ owS = ow ∧ kdS = kd)) := by
    rcases ht with ⟨h1, h2, h3⟩ | ⟨h1, h2, a, b, c, h4, h5, h6, h7⟩ | ⟨h1, n, ow, kd, opM, bnM, bxM, h2, h3, h4⟩
    · exact ⟨h1, 0, _, _, 1, 0, by omega, HP_none, Or.inl ⟨h2, h3, rfl⟩, n, ow, kd, opM, bnM, bxM, hn, cx, fun _ => ⟨Or.inl ⟨h2, h3⟩, fun z => absurd z h2⟩⟩
    · obtain ⟨f, s, z⟩ := HP_sz h6 h7
      exact ⟨h1, a, b, c, f, s, h5, h6, z, n, ow, kd, opM, bnM, bxM, hn, cx, fun z => absurd z h2⟩
    · subst h1
      obtain ⟨f, s, z⟩ := HP_sz h3.2.1 h4
      exact ⟨by omega, n, ow, kd, f, s, h3.2.2.1, h3.2.1, z, n, ow, kd, opM, bnM, bxM, h2, h3, fun _ => ⟨h4, fun _ => ⟨rfl, rfl, rfl⟩⟩⟩
  clear hn cx
  have hs1 := SZ_1000 hS hS5 zS
  unfold fb_M_message_50
  refine ok_bnd.mpr (ok_mono (copySize_ok hS hS5 ho zS (by omega)) (fun w1 r1 h1 => ?_))
  obtain ⟨f1, e1⟩ := h1
  subst e1
  generalize hcs : (if s ≤ 500 then s else 501 : Nat) = cs
  have hcs2 : cs ≤ 501 := by rw [← hcs]; split <;> omega
  unfold fm_M_hand fb_M_hand_0
  rw [show lt (upI w1 140 (I (o : Int))) (fun w1 => lt (upL w1 139 t) (fun w2 => some (w2, ()))) = some (wl (wi w1 140 o) 139 t, ()) from rfl, bnd_so]
  generalize hbase : ((if sort = 0 then 4 else if sort = 1 then 5 else 0 : Int) + (if 0 < wr then 3 else 0)) = ba
  have hba : 0 ≤ ba ∧ ba ≤ 8 := by
    rw [← hbase]
    constructor <;> split <;> split <;> (try split) <;> omega
  rw [I_add, hbase, I_add, show ba + (cs : Int) = ((ba.toNat + cs : Nat) : Int) from by omega]
  obtain ⟨x1, x2, x3, x4, x5, x6, x7, x8, x9, x10, x11⟩ := id cx'
  have f2 : FR [140] [139] [] [141] w0 (wl (wi w1 140 o) 139 t) := FR.wl (FR.wi (FR.mo f1 (by decide) (by decide) (by decide) (by decide)) (by decide)) (by decide)
  have e140 : F (wl (wi w1 140 o) 139 t) 140 = o := by rw [F_wl, F_wi (by omega) (by omega), if_pos rfl]
  have e139 : (wl (wi w1 140 o) 139 t).2.1 139 = t := by rw [L_wl, if_pos rfl]
  generalize wl (wi w1 140 o) 139 t = w2 at f2 e140 e139
  have hp2 : ∀ x, hp w2 x = hp w0 x := fun x => by unfold hp; rw [f2.2.2.2 88 (by decide)]
  have cx2 : CX w2 q (hp w2 q) n' ow' kd' Fv P opM' bnM' bxM' := ⟨rfl, by rw [hp2]; exact x2, x3, x4, by rw [FR.A f2 (by decide)]; exact x5, by rw [FR.A f2 (by decide)]; exact x6, by rw [FR.A f2 (by decide)]; exact x7, fun i hi => by rw [f2.2.2.2 91 (by decide)]; exact x8 i hi, fun i hi => by rw [f2.2.2.2 93 (by decide)]; exact x9 i hi, fun i hi => by rw [f2.2.2.2 107 (by decide)]; exact x10 i hi, fun z => by rw [e139]; exact (hand (by omega)).1⟩
  refine ok_bnd.mpr (ok_mono (wants_ok (N := N) cx2 (by rw [FR.A f2 (by decide)]; exact hn') (k := ba.toNat + cs) (by omega) hN) (fun w3 r3 h3 => ?_))
  obtain ⟨n3, ow3, kd3, fd, R, hw3, hr3⟩ := h3
  obtain ⟨t1, t2, t3, t4, t5, t6, t7, t8, t9, t10, t11, t12⟩ := hw3
  obtain ⟨y1, y2, y3, y4, y5, y6, y7, y8, y9, y10, y11⟩ := id t3
  have none' : fm_M_handNone N w3 = some (wl (wi w3 140 (-1)) 139 (mk 6 0), ()) := rfl
  have f4 : FR [136, 138, 140] [139] [89, 90, 135, 142] [88, 91, 93, 107, 134, 137, 141] w0 (wl (wi w3 140 (-1)) 139 (mk 6 0)) := FR.wl (FR.wi (FR.tr (FR.mo f2 (by decide) (by decide) (by decide) (by decide)) (FR.mo t6 (by decide) (by decide) (by decide) (by decide))) (by decide)) (by decide)
  have h140 : F (wl (wi w3 140 (-1)) 139 (mk 6 0)) 140 = -1 := by rw [F_wl, F_wi (by omega) (by omega), if_pos rfl]
  have mq : MQq Fv P w0 (wl (wi w3 140 (-1)) 139 (mk 6 0)) q n3 ow3 kd3 opM' bnM' bxM' := by
    refine ⟨by have := t5 q; rw [if_pos rfl] at this; exact this, ⟨rfl, y2, y3, y4, y5, y6, y7, y8, y9, y10, fun z => by omega⟩, f4, h140, fun p hp3 => ?_, fun i hi => ?_, fun i hi => ?_, fun i hi => ?_, fun i hi => ?_⟩
    · show A w3 89 p = _
      rw [t5, if_neg hp3, FR.A f2 (by decide)]
    · show w3.2.2.2 88 i = _
      rw [t7 i hi, f2.2.2.2 88 (by decide)]
    · show w3.2.2.2 91 i = _
      rw [RTS_out t8 x5.2 hi, f2.2.2.2 91 (by decide)]
    · show w3.2.2.2 93 i = _
      rw [RTS_out t9 x6.2 hi, f2.2.2.2 93 (by decide)]
    · show w3.2.2.2 107 i = _
      rw [RTS_out t10 x7.2 hi, f2.2.2.2 107 (by decide)]
  rcases hr3 with ⟨er, hroom⟩ | ⟨er, hroom⟩
  · rw [er, lit0q, decE (by omega) (by omega) (by omega) (by omega), decide_eq_false (by omega), br_fq, none', bnd_so]
    have hcs3 : cs = s := by
      rw [← hcs]
      by_cases e : s ≤ 500
      · rw [if_pos e]
      · rw [if_neg e] at hcs; omega
    generalize hx : w3.2.1 139 = x
    have src : SRC Fv P (wl (wi w3 140 (-1)) 139 (mk 6 0)) o q n3 x s := by
      by_cases e : o = q
      · have a1 := t11 (by rw [e140, e])
        rw [e139, hx] at a1
        by_cases hh : isH t
        · obtain ⟨g1, g2⟩ := hand e
          obtain ⟨g3, g4, g5⟩ := g2 hh
          subst g3; subst g4; subst g5
          have sz : SZ (hp w2 q) nS owS kdS Fv P f t s := by rw [hp2, ← e]; exact zS
          have := HOM_sz t1 t2 cx2.2.1 sz a1.2
          rw [← a1.1] at this
          refine ⟨ho, n3, ow3, kd3, f, y3, fun _ => Nat.le_refl _, ?_, ?_⟩
          · rw [e]; exact y2
          · rw [e]; exact this
        · rw [t1.1 t hh] at a1
          have s0 : s = 0 ∧ P t := by
            cases f with
            | zero => exact zS.elim
            | succ f =>
              rcases zS with ⟨-, z, z2⟩ | ⟨z, -⟩
              · exact ⟨z2, z⟩
              · exact absurd z hh
          rw [a1.1, s0.1]
          exact SRC_nh ho hh s0.2
      · have a1 := t12 (by rw [e140]; omega)
        rw [e139, hx] at a1
        rw [a1]
        refine ⟨ho, nS, owS, kdS, f, hS5, fun z => absurd z e, ?_, ?_⟩
        · refine HP_own hS (Nat.le_refl _) (fun i hi _ => ?_) (fun _ _ _ => rfl) (fun _ _ _ => rfl) (fun i hi e => ⟨hi, e⟩)
          show w3.2.2.2 88 _ = w0.2.2.2 88 _
          rw [t7 _ (by omega), f2.2.2.2 88 (by decide)]
        · refine SZ_ext (Nat.le_refl _) (fun i hi => ?_) (fun _ _ => rfl) (fun _ _ => rfl) (fun _ _ q => q) (fun _ q => q) zS
          show w3.2.2.2 88 _ = w0.2.2.2 88 _
          rw [t7 _ (by omega), f2.2.2.2 88 (by decide)]
    have hbx3 : bxM' < 30 := by
      have := x7.1
      have := x7.2
      rcases Nat.lt_or_ge bxM' 30 with z | z
      · exact z
      · exact absurd (by omega : A w0 108 q = 30) hbx
    have e89 : A (wl (wi w3 140 (-1)) 139 (mk 6 0)) 89 q = n3 := mq.1
    generalize wl (wi w3 140 (-1)) 139 (mk 6 0) = v at *
    rw [show (2 : Int32) = I 2 from rfl, decI (by omega) (by omega) (by omega) (by omega)]
    have hif : ba.toNat = (if sort = 0 then 4 else if sort = 1 then 5 else 0) + (if 0 < wr then 3 else 0) := by
      rw [← hbase]
      split <;> split <;> (try split) <;> omega
    by_cases e2 : 2 ≤ sort
    · rw [decide_eq_true (by omega), br_tq, litm1q]
      rw [if_neg (by omega), if_neg (by omega)] at hif
      exact m261_ok mq d hq hal hbx3 hPB (Or.inl ⟨rfl, rfl⟩) src hw (by omega) (by omega) (by omega)
    · rw [decide_eq_false (by omega), br_fq, inb_at (k := 89) (n := 25) rfl (by omega) (by omega) (by decide), ck_t, lt_e, I_tn (by omega) (by omega), Int.toNat_natCast, I_A' e89, decE (by omega) (by omega) (by omega) (by omega)]
      by_cases e0 : sort = 0
      · subst e0
        rw [if_pos rfl] at hif
        rw [decide_eq_true (by omega), br_tq]
        exact m136_ok (parts := 3) (sort := 0) mq d hq hal hbx3 hPB (hp1 (by omega)) hr (Or.inl ⟨rfl, rfl⟩) src hw (by omega) (by omega)
      · have e1 : sort = 1 := by omega
        subst e1
        rw [if_neg (by omega), if_pos rfl] at hif
        rw [decide_eq_false (by omega), br_fq]
        exact m136_ok (parts := 4) (sort := 1) mq d hq hal hbx3 hPB (hp1 (by omega)) hr (Or.inr ⟨rfl, rfl⟩) src hw (by omega) (by omega)
  · rw [er, lit0q, decE (by omega) (by omega) (by omega) (by omega), decide_eq_true rfl, br_tq, none', bnd_so, lit1q, show (20 : Int32) = I 20 from rfl, term_e, bnd_so]
    have dw := MQ_dw mq d hq hal
    obtain ⟨-, -, m3, m4, m5, m6, m7, m8, m9⟩ := mq
    generalize wl (wi w3 140 (-1)) 139 (mk 6 0) = v at *
    refine ok_bnd.mpr (ok_mono (willEnd_ok (wr := 0) dw hq (by omega) (show q ≤ 24 by omega) (Or.inl ⟨nh_mk (by omega), hPB.1 20 (by omega) (by omega)⟩)) (fun v2 _ hv => ok_some.mpr ?_))
    obtain ⟨a, b, c, e⟩ := hv
    refine ⟨a, FR.tr (FR.mo m3 (by decide) (by decide) (by decide) (by decide)) (FR.mo b (by decide) (by decide) (by decide) (by decide)), fun p hp3 => ⟨by rw [e p hp3, FR.A m3 (by decide)], by rw [FR.A b (by decide), FR.A m3 (by decide)], by rw [FR.A b (by decide)]; exact m5 p hp3⟩, Or.inr c, fun i hi => by rw [b.2.2.2 88 (by decide)]; exact m6 i hi, fun i hi => by rw [b.2.2.2 91 (by decide)]; exact m7 i hi, fun i hi => by rw [b.2.2.2 93 (by decide)]; exact m8 i hi⟩
theorem MSG_id (d : DW Fv P PR w0) : MSG Fv P PR w0 q w0 := ⟨d, FR.rf, fun _ _ => ⟨rfl, rfl, rfl⟩, Or.inl rfl, fun _ _ => rfl, fun _ _ => rfl, fun _ _ => rfl⟩
theorem message_ok {o sort p : Nat} {t : Int64} {r wr : Int} (d : DW Fv P PR w0) (hq : q < PR) (hPB : PB P PR) (hsort : sort ≤ 2) (hp1 : sort < 2 → p < PR) (hr : -2147483648 ≤ r ∧ r < 2147483648) (hpr : (p : Int) < 2147483648) (hw : 0 ≤ wr ∧ wr ≤ 2) (ht : A w0 109 q ≠ 3 → TM Fv P w0 q o t) (hN : 60000 ≤ N) :
    OK (fun w2 _ => MSG Fv P PR w0 q w2) (fm_M_message N w0 (I q) (I sort) (I r) (I p) (I wr) (I o) t) := by
  have pr := d.1.2
  unfold fm_M_message fb_M_message_0 fb_M_message_21
  have h9 := A_r w0 109 q
  have h8 := A_r w0 108 q
  rw [inb_at (k := 109) (n := 24) rfl (by omega) (by omega) (by decide), ck_t, I_tn (by omega) (by omega), Int.toNat_natCast, I_A (k := 109), show (3 : Int32) = I 3 from rfl, decE h9.1 h9.2 (by omega) (by omega)]
  by_cases e : A w0 109 q = 3
  · rw [decide_eq_true e, br_tq]; exact ok_some.mpr (MSG_id d)
  rw [decide_eq_false e, br_fq, inb_at (k := 108) (n := 24) rfl (by omega) (by omega) (by decide), ck_t, I_A (k := 108), show (30 : Int32) = I 30 from rfl, decE h8.1 h8.2 (by omega) (by omega)]
  by_cases e8 : A w0 108 q = 30
  · rw [decide_eq_true e8, br_tq]; exact ok_some.mpr (MSG_id d)
  rw [decide_eq_false e8, br_fq, lit0q, lit1q, decE (by omega) (by omega) (by omega) (by omega), decE (by omega) (by omega) (by omega) (by omega)]
  have go : ∀ b : Int, b = (if sort = 0 then 4 else if sort = 1 then 5 else 0) → OK (fun w2 _ => MSG Fv P PR w0 q w2) (fb_M_message_40 N () w0 (I q) (I sort) (I r) (I p) (I wr) (I o) t (I b)) := by
    intro b hb
    subst hb
    unfold fb_M_message_40
    rw [lit0q, decI (by omega) (by omega) (by omega) (by omega)]
    have := m50_ok (N := N) (r := r) (wr := wr) (p := p) d hq e e8 hPB hsort hp1 hr ⟨by omega, hpr⟩ hw (ht e) hN
    by_cases ew : wr ≤ 0
    · rw [decide_eq_true ew, br_tq]
      rw [show (if 0 < wr then 3 else 0 : Int) = 0 from if_neg (by omega)] at this
      exact this
    · rw [decide_eq_false ew, br_fq]
      rw [show (if 0 < wr then 3 else 0 : Int) = 3 from if_pos (by omega)] at this
      exact this
  by_cases e0 : sort = 0
  · rw [decide_eq_true (by omega), br_tq]; exact go 4 (by rw [if_pos e0])
  rw [decide_eq_false (by omega), br_fq]
  by_cases e1 : sort = 1
  · rw [decide_eq_true (by omega), br_tq]; exact go 5 (by rw [if_neg e0, if_pos e1])
  · rw [decide_eq_false (by omega), br_fq]; exact go 0 (by rw [if_neg e0, if_neg e1])
end
end
section
theorem pig : ∀ (N m : Nat) (f : Nat → Nat), (∀ i, i < m → f i < N) → (∀ i j, i < m → j < m → f i = f j → i = j) → m ≤ N
  | 0, m, f, h1, _ => by
    cases m with
    | zero => exact Nat.le_refl _
    | succ m => exact absurd (h1 0 (by omega)) (Nat.not_lt_zero _)
  | N + 1, m, f, h1, h2 => by
    by_cases e : ∃ i, i < m ∧ f i = N
    · obtain ⟨i, hi, ei⟩ := e
      have := pig N (m - 1) (fun k => f (if k < i then k else k + 1)) (fun k hk => by
        have a := h1 (if k < i then k else k + 1) (by split <;> omega)
        have b : f (if k < i then k else k + 1) ≠ N := fun z => by
          have := h2 _ _ (by split <;> omega) hi (z.trans ei.symm)
          split at this <;> omega
        omega) (fun a b ha hb z => by
        have := h2 _ _ (by split <;> omega) (by split <;> omega) z
        split at this <;> split at this <;> omega)
      omega
    · have := pig N m f (fun k hk => by
        have a := h1 k hk
        have b : f k ≠ N := fun z => e ⟨k, hk, z⟩
        omega) h2
      omega
def inL (w : MS) (p q : Nat) : Prop := ∃ k : Nat, (k : Int) < A w 117 p ∧ A w 116 (24 * p + k) = q
def LKR (w : MS) (PR p : Nat) : Prop := 0 ≤ A w 117 p ∧ A w 117 p ≤ 24 ∧ (∀ k : Nat, (k : Int) < A w 117 p → 0 ≤ A w 116 (24 * p + k) ∧ A w 116 (24 * p + k) < PR ∧ A w 116 (24 * p + k) ≠ p) ∧ (∀ k j : Nat, (k : Int) < A w 117 p → (j : Int) < A w 117 p → A w 116 (24 * p + k) = A w 116 (24 * p + j) → k = j)
def RML (u : MS) (p q : Nat) (w : MS) : Prop := FR [] [] [116, 117] [] u w ∧ (∀ i, i ≠ p → A w 117 i = A u 117 i) ∧ (∀ i, ¬ (24 * p ≤ i ∧ i < 24 * p + 24) → A w 116 i = A u 116 i) ∧ A w 117 p ≤ A u 117 p ∧ (inL u p q → A w 117 p < A u 117 p) ∧ ¬ inL w p q ∧ ∀ x, x ≠ q → (inL w p x ↔ inL u p x)
section
variable {N PR : Nat}
theorem rl_loop {p q L : Nat} (hp1 : p < 24) (hq : (q : Int) < 2147483648) (hL : L ≤ 24) (u : MS) : ∀ (m a b : Nat) (w : MS) (g : Nat → Nat), a ≤ b → b ≤ L → L - b < m → FR [] [] [116, 117] [] u w → (∀ i, A w 117 i = A u 117 i) → A u 117 p = L → (∀ i, ¬ (24 * p ≤ i ∧ i < 24 * p + a) → A w 116 i = A u 116 i) → (∀ i, i < a → g i < b ∧ i ≤ g i ∧ A w 116 (24 * p + i) = A u 116 (24 * p + g i) ∧ A u 116 (24 * p + g i) ≠ q) → (∀ i j, i < j → j < a → g i < g j) → (∀ j, j < b → A u 116 (24 * p + j) ≠ q → ∃ i, i < a ∧ g i = j) →
    OK (fun w2 _ => ∃ (c : Nat) (g : Nat → Nat), c ≤ L ∧ FR [] [] [116, 117] [] u w2 ∧ (∀ i, A w2 117 i = if i = p then (c : Int) else A u 117 i) ∧ (∀ i, ¬ (24 * p ≤ i ∧ i < 24 * p + c) → A w2 116 i = A u 116 i) ∧ (∀ i, i < c → g i < L ∧ i ≤ g i ∧ A w2 116 (24 * p + i) = A u 116 (24 * p + g i) ∧ A u 116 (24 * p + g i) ≠ q) ∧ (∀ i j, i < j → j < c → g i < g j) ∧ (∀ j, j < L → A u 116 (24 * p + j) ≠ q → ∃ i, i < c ∧ g i = j)) (gg_M_removeLink N m w (I p) (I q) (I a) (I b)) := by
  intro m
  induction m with
  | zero => intro a b w g _ _ z; exact absurd z (Nat.not_lt_zero _)
  | succ m ih =>
    intro a b w g hab hbL hm hf h117 eL h116 h1 h2 h3
    show OK _ (fb_M_removeLink_5 N (gg_M_removeLink N m) w (I p) (I q) (I a) (I b))
    unfold fb_M_removeLink_5 fb_M_removeLink_58
    rw [inb_at (k := 117) (n := 24) rfl (by omega) (by omega) (by decide), ck_t, ck_t, I_tn (x := (p : Int)) (by omega) (by omega), Int.toNat_natCast, I_A' ((h117 p).trans eL), decI (by omega) (by omega) (by omega) (by omega)]
    by_cases e : L ≤ b
    · have eb : b = L := by omega
      subst eb
      rw [decide_eq_true (by omega), br_tq, lt_e, wa_e]
      refine ok_some.mpr ⟨a, g, hab, FR.wa hf (by decide), fun i => ?_, fun i hi => ?_, fun i hi => ?_, h2, h3⟩
      · rw [A_eq (by omega) (by omega), h117]
      · rw [A_ne (by decide)]; exact h116 i hi
      · rw [A_ne (by decide)]; exact h1 i hi
    · have hr := A_r u 116 (24 * p + b)
      have eq' : A w 116 (24 * p + b) = A u 116 (24 * p + b) := h116 _ (by omega)
      by_cases eQ : True
      · rw [decide_eq_false (by omega), br_fq, show (24 : Int32) = I 24 from rfl, I_mul, I_add, inb_at (k := 116) (n := 576) rfl (by omega) (by omega) (by decide), ck_t, I_tn (x := 24 * (p : Int) + (b : Int)) (by omega) (by omega), show (24 * (p : Int) + (b : Int)).toNat = 24 * p + b from by omega, I_A' eq', decE hr.1 hr.2 (by omega) (by omega), lit1q, I_add]
        by_cases e2 : A u 116 (24 * p + b) = q
        · rw [decide_eq_true e2, br_tq]
          refine ih a (b + 1) w g (by omega) (by omega) (by omega) hf h117 eL h116 (fun i hi => ⟨by have := (h1 i hi).1; omega, (h1 i hi).2⟩) h2 (fun j hj hne => ?_)
          by_cases e3 : j = b
          · subst e3; exact absurd e2 hne
          · exact h3 j (by omega) hne
        · rw [decide_eq_false e2, br_fq, ck_t, I_add, inb_at (k := 116) (n := 576) rfl (by omega) (by omega) (by decide), ck_t, lt_e, I_tn (by omega) (by omega), show (24 * (p : Int) + (a : Int)).toNat = 24 * p + a from by omega, wa_e, I_add]
          refine ih (a + 1) (b + 1) (wa w 116 (24 * p + a) (A u 116 (24 * p + b))) (fun i => if i = a then b else g i) (by omega) (by omega) (by omega) (FR.wa hf (by decide)) (fun i => by rw [A_ne (by decide)]; exact h117 i) eL (fun i hi => ?_) (fun i hi => ?_) (fun i j hij hj => ?_) (fun j hj hne => ?_)
          · rw [A_eq hr.1 hr.2, if_neg (by omega)]; exact h116 i (by omega)
          · rw [A_eq hr.1 hr.2]
            by_cases e3 : i = a
            · subst e3
              show (if i = i then b else g i) < b + 1 ∧ i ≤ (if i = i then b else g i) ∧ (if 24 * p + i = 24 * p + i then _ else _) = A u 116 (24 * p + (if i = i then b else g i)) ∧ _
              rw [if_pos rfl, if_pos rfl]; exact ⟨by omega, hab, rfl, e2⟩
            · rw [if_neg e3, if_neg (by omega)]
              obtain ⟨q1, q2⟩ := h1 i (by omega)
              exact ⟨by omega, q2⟩
          · simp only [if_neg (show ¬ i = a by omega)]
            by_cases e3 : j = a
            · simp only [if_pos e3]; exact (h1 i (by omega)).1
            · simp only [if_neg e3]; exact h2 i j hij (by omega)
          · by_cases e3 : j = b
            · exact ⟨a, by omega, by simp only [if_true]; exact e3.symm⟩
            · obtain ⟨i, i1, i2⟩ := h3 j (by omega) hne
              exact ⟨i, by omega, by simp only [if_neg (show ¬ i = a by omega)]; exact i2⟩
      · exact absurd trivial eQ
theorem removeLink_ok {u : MS} {p q : Nat} (hp1 : p < 24) (hq : (q : Int) < 2147483648) (h : LKR u PR p) (hN : 100 ≤ N) : OK (fun w _ => RML u p q w ∧ LKR w PR p) (fm_M_removeLink N u (I p) (I q)) := by
  obtain ⟨a1, a2, a3, a4⟩ := h
  unfold fm_M_removeLink fb_M_removeLink_0
  rw [lit0q]
  have eL : A u 117 p = ((A u 117 p).toNat : Int) := by omega
  generalize (A u 117 p).toNat = L at eL
  refine ok_mono (rl_loop (p := p) (q := q) (L := L) (N := N) hp1 hq (by omega) u N 0 0 u (fun _ => 0) (Nat.le_refl _) (Nat.zero_le _) (by omega) FR.rf (fun _ => rfl) eL (fun _ _ => rfl) (fun i hi => absurd hi (Nat.not_lt_zero _)) (fun i j _ hj => absurd hj (Nat.not_lt_zero _)) (fun j hj => absurd hj (Nat.not_lt_zero _))) (fun w _ hw => ?_)
  obtain ⟨c, g, c1, c2, c3, c4, c5, c6, c7⟩ := hw
  have ec : A w 117 p = c := by rw [c3, if_pos rfl]
  have gi : ∀ i j, i < c → j < c → g i = g j → i = j := fun i j hi hj e => by
    rcases Nat.lt_trichotomy i j with z | z | z
    · have := c6 i j z hj; omega
    · exact z
    · have := c6 j i z hi; omega
  refine ⟨⟨c2, fun i hi => by rw [c3, if_neg hi], fun i hi => c4 i (by omega), by rw [ec, eL]; omega, fun hin => ?_, fun hin => ?_, fun x hx => ⟨fun hin => ?_, fun hin => ?_⟩⟩, ?_, ?_, fun k hk => ?_, fun k j hk hj e => ?_⟩
  · obtain ⟨k, k1, k2⟩ := hin
    rw [ec, eL]
    rcases Nat.lt_or_ge c L with z | z
    · omega
    · exfalso
      have e : c = L := by omega
      have hg : ∀ i, i < c → g i = i := fun i hi => by
        have b1 : ∀ d, i + d < c → g i + d ≤ g (i + d) := by
          intro d
          induction d with
          | zero => intro _; exact Nat.le_refl _
          | succ d id =>
            intro hd
            have := id (by omega)
            have := c6 (i + d) (i + (d + 1)) (by omega) hd
            omega
        have := b1 (c - 1 - i) (by omega)
        have := (c5 (i + (c - 1 - i)) (by omega)).1
        have := (c5 i hi).2.1
        omega
      have hk : k < c := by omega
      have := (c5 k hk).2.2.2
      rw [hg k hk] at this
      exact this k2
  · obtain ⟨k, k1, k2⟩ := hin
    rw [ec] at k1
    obtain ⟨-, -, q2, q3⟩ := c5 k (by omega)
    rw [q2] at k2
    exact q3 k2
  · obtain ⟨k, k1, k2⟩ := hin
    rw [ec] at k1
    obtain ⟨q0, -, q2, -⟩ := c5 k (by omega)
    exact ⟨g k, by rw [eL]; omega, by rw [← q2]; exact k2⟩
  · obtain ⟨k, k1, k2⟩ := hin
    rw [eL] at k1
    obtain ⟨i, i1, i2⟩ := c7 k (by omega) (by rw [k2]; omega)
    obtain ⟨-, -, q2, -⟩ := c5 i i1
    exact ⟨i, by rw [ec]; omega, by rw [q2, i2]; exact k2⟩
  · rw [ec]; omega
  · rw [ec]; omega
  · rw [ec] at hk
    obtain ⟨q0, -, q2, -⟩ := c5 k (by omega)
    rw [q2]
    exact a3 (g k) (by rw [eL]; omega)
  · rw [ec] at hk hj
    obtain ⟨q0, -, q2, -⟩ := c5 k (by omega)
    obtain ⟨r0, -, r2, -⟩ := c5 j (by omega)
    rw [q2, r2] at e
    exact gi k j (by omega) (by omega) (a4 _ _ (by rw [eL]; omega) (by rw [eL]; omega) e)
end
end
section
def WTQ (w : MS) (PR : Nat) : Prop := 0 ≤ F w 125 ∧ F w 125 ≤ 200 ∧ ∀ i : Nat, (i : Int) < F w 125 → (0 ≤ A w 123 i ∧ A w 123 i < PR) ∧ (0 ≤ A w 124 i ∧ A w 124 i < PR)
def LK (w : MS) (PR : Nat) : Prop := (∀ p, p < PR → LKR w PR p) ∧ ∀ p q, p < PR → q < PR → inL w p q → inL w q p
section
variable {Fv : Int64 → Int64 → Prop} {P : Int64 → Prop} {u w : MS} {PR N : Nat}
theorem rw_loop {L : Nat} (hL : L ≤ 200) : ∀ (m k : Nat) (w : MS), k ≤ L → L - k < m → F w 125 = L → OK (fun w2 _ => FR [] [] [122, 123, 124] [] w w2 ∧ ∀ X, X = 122 ∨ X = 123 ∨ X = 124 → ∀ i, A w2 X i = if k ≤ i ∧ i < L then A w X (i + 1) else A w X i) (gg_M_removeWatch N m w (I k)) := by
  intro m
  induction m with
  | zero => intro k w _ z; exact absurd z (Nat.not_lt_zero _)
  | succ m ih =>
    intro k w hk hm hF
    show OK _ (fb_M_removeWatch_12 N (gg_M_removeWatch N m) w (I k))
    unfold fb_M_removeWatch_12
    rw [I_F' hF, decI (by omega) (by omega) (by omega) (by omega)]
    by_cases e : L ≤ k
    · rw [decide_eq_true (by omega), br_tq]
      exact ok_some.mpr ⟨FR.rf, fun X _ i => by rw [if_neg (by omega)]⟩
    · have r1 := A_r w 122 (k + 1)
      have r2 := A_r w 123 (k + 1)
      have r3 := A_r w 124 (k + 1)
      rw [decide_eq_false (by omega), br_fq, lit1q, I_add, inb_at (k := 122) (n := 4000) rfl (by omega) (by omega) (by decide), ck_t, inb_at (k := 122) (n := 4000) rfl (by omega) (by omega) (by decide), ck_t, lt_e, I_tn (x := (k : Int)) (by omega) (by omega), I_tn (x := (k : Int) + 1) (by omega) (by omega), Int.toNat_natCast, show ((k : Int) + 1).toNat = k + 1 from by omega, I_A (k := 122), wa_e]
      rw [inb_at (k := 123) (n := 4000) rfl (by omega) (by omega) (by decide), ck_t, inb_at (k := 123) (n := 4000) rfl (by omega) (by omega) (by decide), ck_t, lt_e, I_A' (show A (wa w 122 k (A w 122 (k + 1))) 123 (k + 1) = A w 123 (k + 1) from A_ne (by decide)), wa_e]
      rw [inb_at (k := 124) (n := 4000) rfl (by omega) (by omega) (by decide), ck_t, inb_at (k := 124) (n := 4000) rfl (by omega) (by omega) (by decide), ck_t, lt_e, I_A' (show A (wa (wa w 122 k (A w 122 (k + 1))) 123 k (A w 123 (k + 1))) 124 (k + 1) = A w 124 (k + 1) from by rw [A_ne (by decide), A_ne (by decide)]), wa_e]
      have b : ∀ X, X = 122 ∨ X = 123 ∨ X = 124 → ∀ i, A (wa (wa (wa w 122 k (A w 122 (k + 1))) 123 k (A w 123 (k + 1))) 124 k (A w 124 (k + 1))) X i = if i = k then A w X (k + 1) else A w X i := fun X hX i => by
        rcases hX with hX | hX | hX <;> subst hX
        · rw [A_ne (by decide), A_ne (by decide), A_eq r1.1 r1.2]
        · rw [A_ne (by decide), A_eq r2.1 r2.2, A_ne (by decide)]
        · rw [A_eq r3.1 r3.2, A_ne (by decide), A_ne (by decide)]
      refine ok_mono (ih (k + 1) _ (by omega) (by omega) hF) (fun w2 _ hw => ⟨FR.tr (FR.wa (FR.wa (FR.wa FR.rf (by decide)) (by decide)) (by decide)) hw.1, fun X hX i => ?_⟩)
      rw [hw.2 X hX, b X hX, b X hX]
      by_cases e1 : i = k
      · subst e1; rw [if_neg (by omega), if_pos rfl, if_pos (by omega)]
      · by_cases e2 : k + 1 ≤ i ∧ i < L
        · rw [if_pos e2, if_neg (by omega), if_pos (by omega)]
        · rw [if_neg e2, if_neg e1, if_neg (by omega)]
theorem removeWatch_ok {k : Nat} (h : WTQ w PR) (hk : (k : Int) < F w 125) (hN : 300 ≤ N) : OK (fun w2 _ => FR [125] [] [122, 123, 124] [] w w2 ∧ F w2 125 = F w 125 - 1 ∧ WTQ w2 PR) (fm_M_removeWatch N w (I k)) := by
  obtain ⟨h1, h2, h3⟩ := h
  unfold fm_M_removeWatch fb_M_removeWatch_0
  rw [I_F, lit1q, I_sub, lt_e, wi_e]
  have eL : F (wi w 125 (F w 125 - 1)) 125 = (((F w 125 - 1).toNat : Nat) : Int) := by rw [F_wi (by omega) (by omega), if_pos rfl]; omega
  refine ok_mono (rw_loop (L := (F w 125 - 1).toNat) (by omega) N k _ (by omega) (by omega) eL) (fun w2 _ hw => ?_)
  have e2 : F w2 125 = F w 125 - 1 := by rw [FR.F hw.1 (by decide), F_wi (by omega) (by omega), if_pos rfl]
  refine ⟨FR.tr (FR.wi FR.rf (by decide)) (FR.mo hw.1 (by decide) (by decide) (by decide) (by decide)), e2, by omega, by omega, fun i hi => ?_⟩
  rw [hw.2 123 (by omega), hw.2 124 (by omega)]
  show (0 ≤ (if _ then A w 123 (i + 1) else A w 123 i) ∧ (if _ then A w 123 (i + 1) else A w 123 i) < _) ∧ (0 ≤ (if _ then A w 124 (i + 1) else A w 124 i) ∧ (if _ then A w 124 (i + 1) else A w 124 i) < _)
  by_cases e : k ≤ i ∧ i < (F w 125 - 1).toNat
  · rw [if_pos e, if_pos e]; exact h3 (i + 1) (by omega)
  · rw [if_neg e, if_neg e]; exact h3 i (by omega)
def KEEP (u w : MS) (PR : Nat) : Prop := (∀ o, (o = 24 ∨ (o < PR ∧ A u 109 o = 3)) → A w 89 o = A u 89 o ∧ ∀ i, i < 500 → hp w o i = hp u o i) ∧ ∀ o, o < PR → A u 109 o = 3 → A w 109 o = 3
theorem KEEP.rf : KEEP u u PR := ⟨fun _ _ => ⟨rfl, fun _ _ => rfl⟩, fun _ _ h => h⟩
theorem KEEP.tr {v : MS} (a : KEEP u v PR) (b : KEEP v w PR) : KEEP u w PR := by
  refine ⟨fun o h => ?_, fun o h1 h2 => b.2 o h1 (a.2 o h1 h2)⟩
  have h' : o = 24 ∨ (o < PR ∧ A v 109 o = 3) := by
    rcases h with h | h
    · exact Or.inl h
    · exact Or.inr ⟨h.1, a.2 o h.1 h.2⟩
  obtain ⟨a1, a2⟩ := a.1 o h
  obtain ⟨b1, b2⟩ := b.1 o h'
  exact ⟨b1.trans a1, fun i hi => (b2 i hi).trans (a2 i hi)⟩
theorem KEEP.fr {is ls as js : List Nat} (f : FR is ls as js u w) (h1 : 89 ∉ as) (h2 : 109 ∉ as) (h3 : 88 ∉ js) : KEEP u w PR :=
  ⟨fun o _ => ⟨FR.A f h1, fun i _ => by unfold hp; rw [f.2.2.2 88 h3]⟩, fun o _ h => by rw [FR.A f h2]; exact h⟩
theorem GTP_keep {o : Nat} {t : Int64} (k : KEEP u w PR) (ho : o = 24 ∨ (o < PR ∧ A u 109 o = 3)) (g : GTP Fv P u o t) : GTP Fv P w o t := by
  obtain ⟨n, ow, kd, a, b, c, d⟩ := g
  obtain ⟨k1, k2⟩ := k.1 o ho
  exact ⟨n, ow, kd, by rw [k1]; exact a, b, HP_own c (Nat.le_refl _) (fun i hi _ => k2 i (by omega)) (fun _ _ _ => rfl) (fun _ _ _ => rfl) (fun i hi e => ⟨hi, e⟩), d⟩
theorem TE_keep {o : Nat} {t : Int64} (k : KEEP u w PR) (h : TE Fv P u PR o t) : TE Fv P w PR o t := by
  rcases h with h | ⟨h1, h2, h3⟩
  · exact Or.inl h
  · refine Or.inr ⟨h1, ?_, GTP_keep k h2 h3⟩
    rcases h2 with h2 | h2
    · exact Or.inl h2
    · exact Or.inr ⟨h2.1, k.2 o h2.1 h2.2⟩
theorem MSG_keep {q : Nat} (m : MSG Fv P PR u q w) (hq : q < PR) (pr : PR ≤ 24) (hal : A u 109 q ≠ 3) : KEEP u w PR := by
  obtain ⟨m1, m2, m3, m4, m5, -⟩ := m
  have ne : ∀ o, (o = 24 ∨ (o < PR ∧ A u 109 o = 3)) → o ≠ q := fun o h e => by
    rcases h with h | h
    · omega
    · rw [e] at h; exact hal h.2
  refine ⟨fun o h => ⟨(m3 o (ne o h)).2.2, fun i hi => ?_⟩, fun o h1 h2 => by rw [(m3 o (ne o (Or.inr ⟨h1, h2⟩))).1]; exact h2⟩
  have := ne o h
  unfold hp
  exact m5 _ (by omega)
def EVF (u w : MS) : Prop := FR [136, 138, 140, 150] [139] [89, 90, 108, 109, 135, 142, 145, 146, 147] [88, 91, 93, 107, 134, 137, 141, 148] u w ∧ ∀ p, A w 109 p = A u 109 p ∨ A w 109 p = 3
theorem MSG_evf {q : Nat} (m : MSG Fv P PR u q w) : EVF u w := ⟨m.2.1, fun p => by
  by_cases e : p = q
  · subst e; exact m.2.2.2.1
  · exact Or.inl (m.2.2.1 p e).1⟩
theorem EVF.rf : EVF u u := ⟨FR.rf, fun _ => Or.inl rfl⟩
theorem EVF.tr {v : MS} (a : EVF u v) (b : EVF v w) : EVF u w := ⟨FR.tr a.1 b.1, fun p => by
  rcases b.2 p with h | h
  · rw [h]; exact a.2 p
  · exact Or.inr h⟩
theorem TE_tm {q o : Nat} {t : Int64} (h : TE Fv P u PR o t) (ho : o ≤ 24) (hq : q < PR) (pr : PR ≤ 24) (hal : A u 109 q ≠ 3) : TM Fv P u q o t := by
  rcases h with h | ⟨h1, h2, h3⟩
  · exact Or.inl ⟨by omega, h⟩
  · refine Or.inr (Or.inl ⟨by omega, fun e => ?_, h3⟩)
    rcases h2 with h2 | h2
    · omega
    · rw [e] at h2; exact hal h2.2
theorem message_ev {q o sort p : Nat} {t : Int64} {r wr : Int} (d : DW Fv P PR u) (hq : q < PR) (hPB : PB P PR) (hsort : sort ≤ 2) (hp1 : sort < 2 → p < PR) (hr : -2147483648 ≤ r ∧ r < 2147483648) (hpr : (p : Int) < 2147483648) (hw : 0 ≤ wr ∧ wr ≤ 2) (ho : o ≤ 24) (ht : TE Fv P u PR o t) (hN : 60000 ≤ N) :
    OK (fun w2 _ => DW Fv P PR w2 ∧ EVF u w2 ∧ KEEP u w2 PR) (fm_M_message N u (I q) (I sort) (I r) (I p) (I wr) (I o) t) := by
  have pr := d.1.2
  by_cases e : A u 109 q = 3
  · unfold fm_M_message fb_M_message_0 fb_M_message_21
    rw [inb_at (k := 109) (n := 24) rfl (by omega) (by omega) (by decide), ck_t, I_tn (by omega) (by omega), Int.toNat_natCast, I_A' e, show (3 : Int32) = I 3 from rfl, decE (by omega) (by omega) (by omega) (by omega), decide_eq_true rfl, br_tq]
    exact ok_some.mpr ⟨d, EVF.rf, KEEP.rf⟩
  · exact ok_mono (message_ok d hq hPB hsort hp1 hr hpr hw (fun h => TE_tm ht ho hq pr h) hN) (fun w2 _ m => ⟨m.1, MSG_evf m, MSG_keep m hq pr e⟩)
theorem willEnd_ev {p o : Nat} {wr : Int} {t : Int64} (d : DW Fv P PR u) (hp1 : p < PR) (hw : 0 ≤ wr ∧ wr ≤ 2) (ho : o ≤ 24) (ht : TE Fv P u PR o t) : OK (fun w2 _ => DW Fv P PR w2 ∧ EVF u w2 ∧ KEEP u w2 PR) (fm_M_willEnd N u (I p) (I wr) (I o) t) := by
  refine ok_mono (willEnd_ok d hp1 hw ho ?_) (fun w2 _ h => ⟨h.1, ⟨FR.mo h.2.1 (by decide) (by decide) (by decide) (by decide), fun q => ?_⟩, ⟨fun o _ => ⟨FR.A h.2.1 (by decide), fun i _ => by unfold hp; rw [h.2.1.2.2.2 88 (by decide)]⟩, fun o h1 h2 => ?_⟩⟩)
  · rcases ht with ht | ⟨h1, h2, h3⟩
    · exact Or.inl ht
    · refine Or.inr ⟨h1, ?_, h3⟩
      rcases h2 with h2 | h2
      · exact Or.inl h2
      · exact Or.inr ⟨h2.1, Or.inl h2.2⟩
  · by_cases e : q = p
    · subst e; exact Or.inr h.2.2.1
    · exact Or.inl (h.2.2.2 q e)
  · by_cases e : o = p
    · subst e; exact h.2.2.1
    · rw [h.2.2.2 o e]; exact h2
theorem signal_ok {q p o : Nat} {wr : Int} {t : Int64} (d : DW Fv P PR u) (hq : q < PR) (hp1 : p < PR) (hPB : PB P PR) (hw : 0 ≤ wr ∧ wr ≤ 2) (ho : o ≤ 24) (ht : TE Fv P u PR o t) (hN : 60000 ≤ N) :
    OK (fun w2 _ => DW Fv P PR w2 ∧ EVF u w2 ∧ KEEP u w2 PR) (fm_M_signal N u (I q) (I p) (I wr) (I o) t) := by
  have pr := d.1.2
  unfold fm_M_signal fb_M_signal_0 fb_M_signal_51 fb_M_signal_61
  rw [inb_at (k := 109) (n := 24) rfl (by omega) (by omega) (by decide), ck_t, inb_at (k := 112) (n := 24) rfl (by omega) (by omega) (by decide), ck_t]
  have wE := willEnd_ev (N := N) d hq hw ho ht
  refine ok_br.mpr ⟨fun _ => ok_some.mpr ⟨d, EVF.rf, KEEP.rf⟩, fun _ => ok_br.mpr ⟨fun _ => ok_br.mpr ⟨fun _ => ?_, fun _ => ok_bnd.mpr (ok_mono wE (fun w2 _ h => ok_some.mpr h))⟩, fun _ => ?_⟩⟩
  · rw [lit1q, show (4 : Int32) = I 4 from rfl, term_e, bnd_so]
    exact ok_br.mpr ⟨fun _ => ok_some.mpr ⟨d, EVF.rf, KEEP.rf⟩, fun _ => ok_bnd.mpr (ok_mono wE (fun w2 _ h => ok_some.mpr h))⟩
  · rw [lit0q]
    exact ok_bnd.mpr (ok_mono (message_ev (sort := 0) (r := 0) d hq hPB (by omega) (fun _ => hp1) (by omega) (by omega) hw ho ht hN) (fun w2 _ h => ok_some.mpr h))
end
end
section
section
variable {Fv : Int64 → Int64 → Prop} {P : Int64 → Prop} {u w w2 : MS} {PR N : Nat}
theorem DW_fr {is ls as js : List Nat} (d : DW Fv P PR w) (f : FR is ls as js w w2) (i1 : 118 ∉ is) (i2 : 140 ∉ is) (i3 : 149 ∉ is) (i4 : 150 ∉ is) (a1 : 89 ∉ as) (a2 : 92 ∉ as) (a3 : 94 ∉ as) (a4 : 108 ∉ as) (a5 : 109 ∉ as) (a6 : 145 ∉ as) (a7 : 146 ∉ as) (a8 : 147 ∉ as) (j1 : 88 ∉ js) (j2 : 91 ∉ js) (j3 : 93 ∉ js) (j4 : 107 ∉ js) (j5 : 148 ∉ js) : DW Fv P PR w2 := by
  obtain ⟨⟨d1, d1'⟩, d2, ⟨n4, ow4, kd4, d3a, d3b, d3c⟩, d4, ⟨eF, eM, e1, e2, e3, e4, e5⟩, d6⟩ := d
  have hpz : ∀ x, hp w2 x = hp w x := fun x => by unfold hp; rw [f.2.2.2 88 j1]
  refine ⟨⟨by rw [FR.F f i1]; exact d1, d1'⟩, fun p hp1 => PRC_same (d2 p hp1) (FR.A f a1) (hpz p) (FR.A f a2) (FR.A f a3) (FR.A f a4) (fun i _ => by rw [f.2.2.2 91 j2]) (fun i _ => by rw [f.2.2.2 93 j3]) (fun i _ => by rw [f.2.2.2 107 j4]) (by rw [FR.F f i2, d4]; omega), ⟨n4, ow4, kd4, by rw [FR.A f a1]; exact d3a, d3b, by rw [hpz]; exact d3c⟩, by rw [FR.F f i2]; exact d4, ⟨eF, eM, by rw [FR.F f i3]; exact e1, by rw [FR.F f i4]; exact e2, e3, by rw [cE_eq PR (fun p _ => FR.A f a5)]; exact e4, fun i h1 h2 => ?_⟩, fun p hp1 => by rw [FR.A f a5]; exact d6 p hp1⟩
  obtain ⟨q1, q2, q3, q4⟩ := e5 i h1 h2
  rw [FR.A f a6, FR.A f a7, FR.A f a8, f.2.2.2 148 j5]
  exact ⟨q1, q2, q3, TE_keep (KEEP.fr f a1 a5 j1) q4⟩
theorem inL_same {x y : Nat} (h : LKR w PR x) (e1 : A w2 117 x = A w 117 x) (e2 : ∀ k, k < 24 → A w2 116 (24 * x + k) = A w 116 (24 * x + k)) : inL w2 x y ↔ inL w x y := by
  have h2 := h.2.1
  constructor
  · rintro ⟨k, k1, k2⟩
    rw [e1] at k1
    exact ⟨k, k1, by rw [← e2 k (by omega)]; exact k2⟩
  · rintro ⟨k, k1, k2⟩
    exact ⟨k, by rw [e1]; exact k1, by rw [e2 k (by omega)]; exact k2⟩
theorem LKR_same {x : Nat} (h : LKR w PR x) (e1 : A w2 117 x = A w 117 x) (e2 : ∀ k, k < 24 → A w2 116 (24 * x + k) = A w 116 (24 * x + k)) : LKR w2 PR x := by
  obtain ⟨h1, h2, h3, h4⟩ := h
  refine ⟨by rw [e1]; exact h1, by rw [e1]; exact h2, fun k hk => ?_, fun k j hk hj e => ?_⟩
  · rw [e1] at hk; rw [e2 k (by omega)]; exact h3 k hk
  · rw [e1] at hk hj; rw [e2 k (by omega), e2 j (by omega)] at e; exact h4 k j hk hj e
theorem LK_fr {is ls as js : List Nat} (l : LK w PR) (f : FR is ls as js w w2) (a1 : 116 ∉ as) (a2 : 117 ∉ as) : LK w2 PR := by
  refine ⟨fun p hp1 => LKR_same (l.1 p hp1) (FR.A f a2) (fun _ _ => FR.A f a1), fun p q hp1 hq h => ?_⟩
  have h' := (inL_same (l.1 p hp1) (FR.A f a2) (fun _ _ => FR.A f a1)).mp h
  exact (inL_same (l.1 q hq) (FR.A f a2) (fun _ _ => FR.A f a1)).mpr (l.2 p q hp1 hq h')
theorem WT_fr {is ls as js : List Nat} (l : WTQ w PR) (f : FR is ls as js w w2) (i1 : 125 ∉ is) (a1 : 123 ∉ as) (a2 : 124 ∉ as) : WTQ w2 PR := by
  obtain ⟨h1, h2, h3⟩ := l
  refine ⟨by rw [FR.F f i1]; exact h1, by rw [FR.F f i1]; exact h2, fun i hi => ?_⟩
  rw [FR.F f i1] at hi
  rw [FR.A f a1, FR.A f a2]
  exact h3 i hi
theorem ATM_fr {is ls as js : List Nat} (l : ATM w) (f : FR is ls as js w w2) (i1 : 14 ∉ is) (a1 : 13 ∉ as) : ATM w2 := by
  obtain ⟨h1, h2, h3⟩ := l
  refine ⟨by rw [FR.F f i1]; exact h1, by rw [FR.F f i1]; exact h2, fun k hk => ?_⟩
  rw [FR.F f i1] at hk
  rw [FR.A f a1, FR.A f a1]
  exact h3 k hk
theorem PA_fr {is ls as js : List Nat} (l : ∀ t, P t → PA w t) (f : FR is ls as js w w2) (i1 : 14 ∉ is) : ∀ t, P t → PA w2 t := fun t h => by unfold PA; rw [FR.F f i1]; exact l t h
theorem LK_two {v : MS} {p q : Nat} (pr : PR ≤ 24) (hp1 : p < PR) (hq : q < PR) (hne : p ≠ q) (l : LK w PR) (a : RML w p q v) (ka : LKR v PR p) (b : RML v q p w2) (kb : LKR w2 PR q) : LK w2 PR := by
  obtain ⟨a1, a2, a3, a4, a5, a6, a7⟩ := a
  obtain ⟨b1, b2, b3, b4, b5, b6, b7⟩ := b
  have rq : ∀ k, k < 24 → A v 116 (24 * q + k) = A w 116 (24 * q + k) := fun k hk => a3 _ (by omega)
  have rp : ∀ k, k < 24 → A w2 116 (24 * p + k) = A v 116 (24 * p + k) := fun k hk => b3 _ (by omega)
  have eP : ∀ y, inL w2 p y ↔ inL v p y := fun y => inL_same ka (b2 p hne) rp
  have eQ : ∀ y, inL v q y ↔ inL w q y := fun y => inL_same (l.1 q hq) (a2 q (Ne.symm hne)) rq
  have eX : ∀ x y, x < PR → x ≠ p → x ≠ q → (inL w2 x y ↔ inL w x y) := fun x y hx h1 h2 => inL_same (l.1 x hx) ((b2 x h2).trans (a2 x h1)) (fun k hk => (b3 _ (by omega)).trans (a3 _ (by omega)))
  have row : ∀ x, x < PR → LKR w2 PR x := fun x hx => by
    by_cases h1 : x = q
    · rw [h1]; exact kb
    · by_cases h2 : x = p
      · rw [h2]; exact LKR_same ka (b2 p hne) rp
      · exact LKR_same (l.1 x hx) ((b2 x h1).trans (a2 x h2)) (fun k hk => (b3 _ (by omega)).trans (a3 _ (by omega)))
  have old : ∀ x y, x < PR → y < PR → (inL w2 x y ↔ (inL w x y ∧ ¬ (x = p ∧ y = q) ∧ ¬ (x = q ∧ y = p))) := fun x y hx hy => by
    by_cases h1 : x = p
    · subst h1
      rw [eP]
      by_cases h2 : y = q
      · subst h2; exact ⟨fun z => absurd z a6, fun z => absurd ⟨rfl, rfl⟩ z.2.1⟩
      · rw [a7 y h2]; exact ⟨fun z => ⟨z, fun e => h2 e.2, fun e => hne e.1⟩, fun z => z.1⟩
    · by_cases h2 : x = q
      · subst h2
        by_cases h3 : y = p
        · subst h3; exact ⟨fun z => absurd z b6, fun z => absurd ⟨rfl, rfl⟩ z.2.2⟩
        · rw [b7 y h3, eQ]; exact ⟨fun z => ⟨z, fun e => h1 e.1, fun e => h3 e.2⟩, fun z => z.1⟩
      · rw [eX x y hx h1 h2]; exact ⟨fun z => ⟨z, fun e => h1 e.1, fun e => h2 e.1⟩, fun z => z.1⟩
  refine ⟨row, fun x y hx hy h => ?_⟩
  obtain ⟨z1, z2, z3⟩ := (old x y hx hy).mp h
  exact (old y x hy hx).mpr ⟨l.2 x y hx hy z1, fun e => z3 ⟨e.2, e.1⟩, fun e => z2 ⟨e.2, e.1⟩⟩
def EVE (u w : MS) : Prop := FR [125, 136, 138, 140, 150] [139] [89, 90, 108, 109, 116, 117, 122, 123, 124, 135, 142, 145, 146, 147] [88, 91, 93, 107, 134, 137, 141, 148] u w ∧ ∀ p, A w 109 p = A u 109 p ∨ A w 109 p = 3
theorem EVE.rf : EVE u u := ⟨FR.rf, fun _ => Or.inl rfl⟩
theorem EVE.tr {v : MS} (a : EVE u v) (b : EVE v w) : EVE u w := ⟨FR.tr a.1 b.1, fun p => by
  rcases b.2 p with h | h
  · rw [h]; exact a.2 p
  · exact Or.inr h⟩
theorem EVF.eve (a : EVF u w) : EVE u w := ⟨FR.mo a.1 (by decide) (by decide) (by decide) (by decide), a.2⟩
theorem EVE.fr {is ls as js : List Nat} (f : FR is ls as js u w) (h1 : ∀ k, k ∈ is → k ∈ [125, 136, 138, 140, 150]) (h2 : ∀ k, k ∈ ls → k ∈ [139]) (h3 : ∀ k, k ∈ as → k ∈ [89, 90, 108, 109, 116, 117, 122, 123, 124, 135, 142, 145, 146, 147]) (h4 : ∀ k, k ∈ js → k ∈ [88, 91, 93, 107, 134, 137, 141, 148]) (h5 : 109 ∉ as) : EVE u w := ⟨FR.mo f h1 h2 h3 h4, fun p => Or.inl (FR.A f h5)⟩
def ESI (Fv : Int64 → Int64 → Prop) (P : Int64 → Prop) (PR : Nat) (w : MS) : Prop := DW Fv P PR w ∧ LK w PR ∧ WTQ w PR
def EPO (Fv : Int64 → Int64 → Prop) (P : Int64 → Prop) (PR : Nat) (u w : MS) : Prop := ESI Fv P PR w ∧ EVE u w ∧ KEEP u w PR
theorem e250 (p : Nat) (hp1 : p < PR) (hN : 300 ≤ N) : ∀ (m k : Nat) (w : MS), ESI Fv P PR w → (k : Int) ≤ F w 125 → (F w 125).toNat - k < m → OK (fun w2 _ => EPO Fv P PR w w2) ((gg_M_end N m).2.2.2 w (I p) (I k)) := by
  intro m
  induction m with
  | zero => intro k w _ _ z; exact absurd z (Nat.not_lt_zero _)
  | succ m ih =>
    intro k w hs hk hm
    obtain ⟨s1, s2, s3⟩ := id hs
    have t1 := s3.1
    have t2 := s3.2.1
    show OK _ (fb_M_end_250 N (gg_M_end N m) w (I p) (I k))
    unfold fb_M_end_250
    rw [I_F, decI (by omega) (by omega) (by omega) (by omega)]
    by_cases e : F w 125 ≤ k
    · rw [decide_eq_true e, br_tq]
      exact ok_some.mpr ⟨hs, EVE.rf, KEEP.rf⟩
    · rw [decide_eq_false e, br_fq, inb_at (k := 123) (n := 4000) rfl (by omega) (by omega) (by decide), ck_t]
      refine ok_br.mpr ⟨fun _ => ok_bnd.mpr (ok_mono (removeWatch_ok s3 (by omega) hN) (fun v _ hv => ?_)), fun _ => ?_⟩
      · obtain ⟨v1, v2, v3⟩ := hv
        have hsv : ESI Fv P PR v := ⟨DW_fr s1 v1 (by decide) (by decide) (by decide) (by decide) (by decide) (by decide) (by decide) (by decide) (by decide) (by decide) (by decide) (by decide) (by decide) (by decide) (by decide) (by decide) (by decide), LK_fr s2 v1 (by decide) (by decide), v3⟩
        refine ok_mono (ih k v hsv (by omega) (by omega)) (fun w2 _ h => ⟨h.1, EVE.tr (EVE.fr v1 (by decide) (by decide) (by decide) (by decide) (by decide)) h.2.1, KEEP.tr (KEEP.fr v1 (by decide) (by decide) (by decide)) h.2.2⟩)
      · rw [lit1q, I_add]
        exact ih (k + 1) w hs (by omega) (by omega)
theorem e180 (p : Nat) {wr : Int} {o : Nat} {t : Int64} (hp1 : p < PR) (hPB : PB P PR) (hw : 0 ≤ wr ∧ wr ≤ 2) (ho : o ≤ 24) (hN : 60000 ≤ N) : ∀ (m k : Nat) (w : MS), ESI Fv P PR w → TE Fv P w PR o t → (k : Int) ≤ F w 125 → ((F w 125).toNat - k) + 300 < m → OK (fun w2 _ => EPO Fv P PR w w2) ((gg_M_end N m).2.2.1 w (I p) (I wr) (I o) t (I k)) := by
  intro m
  induction m with
  | zero => intro k w _ _ _ z; exact absurd z (Nat.not_lt_zero _)
  | succ m ih =>
    intro k w hs te hk hm
    obtain ⟨s1, s2, s3⟩ := id hs
    have t1 := s3.1
    have t2 := s3.2.1
    have pr := s1.1.2
    show OK _ (fb_M_end_180 N (gg_M_end N m) w (I p) (I wr) (I o) t (I k))
    unfold fb_M_end_180
    rw [I_F, decI (by omega) (by omega) (by omega) (by omega)]
    by_cases e : F w 125 ≤ k
    · rw [decide_eq_true e, br_tq, lit0q]
      exact e250 p hp1 (by omega) m 0 w hs (by omega) (by omega)
    · obtain ⟨⟨q1, q2⟩, -⟩ := s3.2.2 k (by omega)
      have hr := A_r w 122 k
      rw [decide_eq_false e, br_fq, inb_at (k := 124) (n := 4000) rfl (by omega) (by omega) (by decide), ck_t, inb_at (k := 123) (n := 4000) rfl (by omega) (by omega) (by decide), ck_t, inb_at (k := 122) (n := 4000) rfl (by omega) (by omega) (by decide), ck_t]
      refine ok_br.mpr ⟨fun _ => ok_bnd.mpr (ok_mono (removeWatch_ok s3 (by omega) (by omega)) (fun v _ hv => ?_)), fun _ => ?_⟩
      · obtain ⟨v1, v2, v3⟩ := hv
        have dv : DW Fv P PR v := DW_fr s1 v1 (by decide) (by decide) (by decide) (by decide) (by decide) (by decide) (by decide) (by decide) (by decide) (by decide) (by decide) (by decide) (by decide) (by decide) (by decide) (by decide) (by decide)
        have kv : KEEP w v PR := KEEP.fr v1 (by decide) (by decide) (by decide)
        rw [I_tn (by omega) (by omega), Int.toNat_natCast, I_A (k := 123), I_A (k := 122), show A w 123 k = (((A w 123 k).toNat : Nat) : Int) from by omega, lit1q]
        refine ok_bnd.mpr (ok_mono (message_ev (sort := 1) (r := A w 122 k) (q := (A w 123 k).toNat) dv (by omega) hPB (by omega) (fun _ => hp1) hr (by omega) hw ho (TE_keep kv te) hN) (fun v2' _ h2 => ?_))
        obtain ⟨y1, y2, y3⟩ := h2
        have f125 : F v2' 125 = F v 125 := FR.F y2.1 (by decide)
        have hs2 : ESI Fv P PR v2' := ⟨y1, LK_fr (LK_fr s2 v1 (by decide) (by decide)) y2.1 (by decide) (by decide), WT_fr v3 y2.1 (by decide) (by decide) (by decide)⟩
        have k2 := KEEP.tr kv y3
        refine ok_mono (ih k v2' hs2 (TE_keep k2 te) (by omega) (by omega)) (fun w2 _ h => ⟨h.1, EVE.tr (EVE.fr v1 (by decide) (by decide) (by decide) (by decide) (by decide)) (EVE.tr y2.eve h.2.1), KEEP.tr k2 h.2.2⟩)
      · rw [lit1q, I_add]
        exact ih (k + 1) w hs te (by omega) (by omega)
theorem e129 (p : Nat) {wr : Int} {o : Nat} {t : Int64} (hp1 : p < PR) (hPB : PB P PR) (hw : 0 ≤ wr ∧ wr ≤ 2) (ho : o ≤ 24) (hN : 60000 ≤ N) : ∀ (m : Nat) (w : MS), ESI Fv P PR w → TE Fv P w PR o t → (A w 117 p).toNat + 600 < m → OK (fun w2 _ => EPO Fv P PR w w2) ((gg_M_end N m).2.1 w (I p) (I wr) (I o) t) := by
  intro m
  induction m with
  | zero => intro w _ _ z; exact absurd z (Nat.not_lt_zero _)
  | succ m ih =>
    intro w hs te hm
    obtain ⟨s1, s2, s3⟩ := id hs
    have pr := s1.1.2
    obtain ⟨l1, l2, l3, l4⟩ := id (s2.1 p hp1)
    show OK _ (fb_M_end_129 N (gg_M_end N m) w (I p) (I wr) (I o) t)
    unfold fb_M_end_129
    rw [inb_at (k := 117) (n := 24) rfl (by omega) (by omega) (by decide), ck_t, I_tn (x := (p : Int)) (by omega) (by omega), Int.toNat_natCast, I_A (k := 117), lit0q, decI (by omega) (by omega) (by omega) (by omega)]
    by_cases e : A w 117 p ≤ 0
    · rw [decide_eq_true e, br_tq]
      exact e180 p hp1 hPB hw ho hN m 0 w hs te (by have := s3.1; omega) (by have := s3.2.1; omega)
    · obtain ⟨q1, q2, q3⟩ := l3 0 (by omega)
      rw [Nat.add_zero] at q1 q2 q3
      rw [decide_eq_false e, br_fq, show (24 : Int32) = I 24 from rfl, I_mul, inb_at (k := 116) (n := 576) rfl (by omega) (by omega) (by decide), ck_t, lt_e, I_tn (by omega) (by omega), show (24 * (p : Int)).toNat = 24 * p from by omega, I_A (k := 116), show A w 116 (24 * p) = (((A w 116 (24 * p)).toNat : Nat) : Int) from by omega]
      have hin : inL w p (A w 116 (24 * p)).toNat := ⟨0, by omega, by rw [Nat.add_zero]; omega⟩
      generalize hq : (A w 116 (24 * p)).toNat = q at hin
      have hqR : q < PR := by omega
      have hne : p ≠ q := by omega
      refine ok_bnd.mpr (ok_mono (removeLink_ok (PR := PR) (q := q) (by omega) (by omega) (s2.1 p hp1) (by omega)) (fun v _ hv => ?_))
      obtain ⟨rv, lv⟩ := hv
      have lq : LKR v PR q := LKR_same (s2.1 q hqR) (rv.2.1 q (Ne.symm hne)) (fun k hk => rv.2.2.1 _ (by omega))
      refine ok_bnd.mpr (ok_mono (removeLink_ok (PR := PR) (q := p) (by omega) (by omega) lq (by omega)) (fun v2 _ hv2 => ?_))
      obtain ⟨rv2, lv2⟩ := hv2
      have lk2 := LK_two pr hp1 hqR hne s2 rv lv rv2 lv2
      have fr2 : FR [] [] [116, 117] [] w v2 := FR.tr rv.1 rv2.1
      have d2 : DW Fv P PR v2 := DW_fr s1 fr2 (by decide) (by decide) (by decide) (by decide) (by decide) (by decide) (by decide) (by decide) (by decide) (by decide) (by decide) (by decide) (by decide) (by decide) (by decide) (by decide) (by decide)
      have k2 : KEEP w v2 PR := KEEP.fr fr2 (by decide) (by decide) (by decide)
      have dec : A v2 117 p < A w 117 p := by rw [rv2.2.1 p hne]; exact rv.2.2.2.2.1 hin
      refine ok_bnd.mpr (ok_mono (signal_ok (q := q) (p := p) d2 hqR hp1 hPB hw ho (TE_keep k2 te) hN) (fun v3 _ h3 => ?_))
      obtain ⟨y1, y2, y3⟩ := h3
      have e117 : A v3 117 p = A v2 117 p := FR.A y2.1 (by decide)
      have l0 := (lk2.1 p hp1).1
      have hs3 : ESI Fv P PR v3 := ⟨y1, LK_fr lk2 y2.1 (by decide) (by decide), WT_fr (WT_fr s3 fr2 (by decide) (by decide) (by decide)) y2.1 (by decide) (by decide) (by decide)⟩
      have k3 := KEEP.tr k2 y3
      exact ok_mono (ih v3 hs3 (TE_keep k3 te) (by omega)) (fun w2 _ h => ⟨h.1, EVE.tr (EVE.fr fr2 (by decide) (by decide) (by decide) (by decide) (by decide)) (EVE.tr y2.eve h.2.1), KEEP.tr k3 h.2.2⟩)
end
end
section
section
variable {Fv : Int64 → Int64 → Prop} {P : Int64 → Prop} {u w w2 : MS} {PR N : Nat}
def RLo (u w : MS) : Prop := ∀ i, A w 132 i = A u 132 i ∨ (0 ≤ A w 132 i ∧ A w 132 i ≤ 100)
theorem RLo.rf : RLo u u := fun _ => Or.inl rfl
theorem RLo.tr {v : MS} (a : RLo u v) (b : RLo v w) : RLo u w := fun i => by
  rcases b i with h | h
  · rw [h]; exact a i
  · exact Or.inr h
theorem ESI_fr {is ls as js : List Nat} (s : ESI Fv P PR w) (f : FR is ls as js w w2) (i1 : 118 ∉ is) (i2 : 140 ∉ is) (i3 : 149 ∉ is) (i4 : 150 ∉ is) (i5 : 125 ∉ is) (a1 : 89 ∉ as) (a2 : 92 ∉ as) (a3 : 94 ∉ as) (a4 : 108 ∉ as) (a5 : 109 ∉ as) (a6 : 145 ∉ as) (a7 : 146 ∉ as) (a8 : 147 ∉ as) (a9 : 116 ∉ as) (a10 : 117 ∉ as) (a11 : 123 ∉ as) (a12 : 124 ∉ as) (j1 : 88 ∉ js) (j2 : 91 ∉ js) (j3 : 93 ∉ js) (j4 : 107 ∉ js) (j5 : 148 ∉ js) : ESI Fv P PR w2 :=
  ⟨DW_fr s.1 f i1 i2 i3 i4 a1 a2 a3 a4 a5 a6 a7 a8 j1 j2 j3 j4 j5, LK_fr s.2.1 f a9 a10, WT_fr s.2.2 f i5 a11 a12⟩
def EVX (u w : MS) : Prop := FR [125, 136, 138, 140, 144, 150] [139] [89, 90, 108, 109, 113, 116, 117, 122, 123, 124, 131, 132, 135, 142, 143, 145, 146, 147] [88, 91, 93, 107, 134, 137, 141, 148] u w ∧ (∀ p, A w 109 p = A u 109 p ∨ A w 109 p = 3) ∧ RLo u w
theorem EVX.rf : EVX u u := ⟨FR.rf, fun _ => Or.inl rfl, RLo.rf⟩
theorem EVX.tr {v : MS} (a : EVX u v) (b : EVX v w) : EVX u w := ⟨FR.tr a.1 b.1, fun p => by
  rcases b.2.1 p with h | h
  · rw [h]; exact a.2.1 p
  · exact Or.inr h, RLo.tr a.2.2 b.2.2⟩
theorem EVE.evx (a : EVE u w) : EVX u w := ⟨FR.mo a.1 (by decide) (by decide) (by decide) (by decide), a.2, fun i => Or.inl (FR.A a.1 (by decide))⟩
theorem EVX.fr {is ls as js : List Nat} (f : FR is ls as js u w) (h1 : ∀ k, k ∈ is → k ∈ [125, 136, 138, 140, 144, 150]) (h2 : ∀ k, k ∈ ls → k ∈ [139]) (h3 : ∀ k, k ∈ as → k ∈ [89, 90, 108, 109, 113, 116, 117, 122, 123, 124, 131, 132, 135, 142, 143, 145, 146, 147]) (h4 : ∀ k, k ∈ js → k ∈ [88, 91, 93, 107, 134, 137, 141, 148]) (h5 : 109 ∉ as) (h6 : 132 ∉ as) : EVX u w := ⟨FR.mo f h1 h2 h3 h4, fun p => Or.inl (FR.A f h5), fun i => Or.inl (FR.A f h6)⟩
def EPX (Fv : Int64 → Int64 → Prop) (P : Int64 → Prop) (PR : Nat) (u w : MS) : Prop := ESI Fv P PR w ∧ EVX u w ∧ KEEP u w PR
theorem e129r (p : Nat) {wr : Int} {o : Nat} {t : Int64} (hp1 : p < PR) (hPB : PB P PR) (hw : 0 ≤ wr ∧ wr ≤ 2) (ho : o ≤ 24) (hN : 60000 ≤ N) (m : Nat) (w : MS) (hs : ESI Fv P PR w) (te : TE Fv P w PR o t) (hm : 700 < m) : OK (fun w2 _ => EPO Fv P PR w w2) ((gg_M_end N m).2.1 w (I p) (I wr) (I o) t) :=
  e129 p hp1 hPB hw ho hN m w hs te (by have := (hs.2.1.1 p hp1).2.1; omega)
theorem e86 (p : Nat) {wr : Int} {o L : Nat} {t : Int64} (hp1 : p < PR) (hPB : PB P PR) (hw : 0 ≤ wr ∧ wr ≤ 2) (ho : o ≤ 24) (hN : 60000 ≤ N) (hL : L ≤ 100) : ∀ (m k : Nat) (w : MS), ESI Fv P PR w → TE Fv P w PR o t → A w 132 p = L → k ≤ L → (L - k) + 800 < m → OK (fun w2 _ => EPX Fv P PR w w2) ((gg_M_end N m).1 w (I p) (I wr) (I o) t (I k)) := by
  intro m
  induction m with
  | zero => intro k w _ _ _ _ z; exact absurd z (Nat.not_lt_zero _)
  | succ m ih =>
    intro k w hs te hA hk hm
    have pr := hs.1.1.2
    show OK _ (fb_M_end_86 N (gg_M_end N m) w (I p) (I wr) (I o) t (I k))
    unfold fb_M_end_86
    rw [inb_at (k := 132) (n := 24) rfl (by omega) (by omega) (by decide), ck_t, I_tn (x := (p : Int)) (by omega) (by omega), Int.toNat_natCast, I_A' hA, decI (by omega) (by omega) (by omega) (by omega)]
    by_cases e : L ≤ k
    · rw [decide_eq_true (by omega), br_tq, inb_at (k := 113) (n := 24) rfl (by omega) (by omega) (by decide), ck_t, lt_e, litm1q, wa_e]
      have f1 : FR [] [] [113] [] w (wa w 113 p (-1)) := FR.wa FR.rf (by decide)
      have hs1 : ESI Fv P PR (wa w 113 p (-1)) := ESI_fr hs f1 (by decide) (by decide) (by decide) (by decide) (by decide) (by decide) (by decide) (by decide) (by decide) (by decide) (by decide) (by decide) (by decide) (by decide) (by decide) (by decide) (by decide) (by decide) (by decide) (by decide) (by decide) (by decide)
      have k1 : KEEP w (wa w 113 p (-1)) PR := KEEP.fr f1 (by decide) (by decide) (by decide)
      exact ok_mono (e129r p hp1 hPB hw ho hN m _ hs1 (TE_keep k1 te) (by omega)) (fun w2 _ h => ⟨h.1, EVX.tr (EVX.fr f1 (by decide) (by decide) (by decide) (by decide) (by decide) (by decide)) h.2.1.evx, KEEP.tr k1 h.2.2⟩)
    · rw [decide_eq_false (by omega), br_fq, inb_at (k := 143) (n := 100) rfl (by omega) (by omega) (by decide), ck_t, lit100, I_mul, I_add, inb_at (k := 131) (n := 2400) rfl (by omega) (by omega) (by decide), ck_t, lt_e, I_tn (by omega) (by omega), I_tn (by omega) (by omega)]
      generalize vp_nar .byte (w.2.2.1 143 (k : Int).toNat) = b
      rw [I_of b, wa_e, lit1q, I_add]
      generalize hv : wa w 131 (100 * (p : Int) + (k : Int)).toNat b.toInt = v
      have f1 : FR [] [] [131] [] w v := by rw [← hv]; exact FR.wa FR.rf (by decide)
      have hs1 : ESI Fv P PR v := ESI_fr hs f1 (by decide) (by decide) (by decide) (by decide) (by decide) (by decide) (by decide) (by decide) (by decide) (by decide) (by decide) (by decide) (by decide) (by decide) (by decide) (by decide) (by decide) (by decide) (by decide) (by decide) (by decide) (by decide)
      have k1 : KEEP w v PR := KEEP.fr f1 (by decide) (by decide) (by decide)
      exact ok_mono (ih (k + 1) v hs1 (TE_keep k1 te) (by rw [FR.A f1 (by decide)]; exact hA) (by omega) (by omega)) (fun w2 _ h => ⟨h.1, EVX.tr (EVX.fr f1 (by decide) (by decide) (by decide) (by decide) (by decide) (by decide)) h.2.1, KEEP.tr k1 h.2.2⟩)
theorem writeTE {B : Int} (hB : 6000 ≤ B ∧ B ≤ 90000) {o : Nat} {t : Int64} (te : TE Fv P w PR o t) (ho : o ≤ 24) (hat : ATM w) (hP : ∀ t, P t → PA w t) (hS : PS P) (h1 : 0 ≤ F w 144) (h2 : F w 144 ≤ B) (hN : 11000000 ≤ N) : OK (fun w2 _ => FR [144] [] [143] [141] w w2 ∧ 0 ≤ F w2 144 ∧ F w2 144 ≤ B) (fm_M_writeOn N w (I o) t) := by
  rcases te with ⟨a, b⟩ | ⟨-, -, n, ow, kd, c1, c2, c3, c4⟩
  · exact writeOn_ok (Fv := Fv) (n := 0) hB (show o < 25 by omega) (by omega) HP_none hat hP hS (Or.inl ⟨a, b⟩) h1 h2 hN
  · exact writeOn_ok hB (show o < 25 by omega) c2 c3 hat hP hS c4 h1 h2 hN
def TF (w w2 : MS) : Prop := FR [144] [] [143] [141] w w2 ∧ 0 ≤ F w2 144 ∧ F w2 144 ≤ 40000
theorem e59 (p : Nat) {wr : Int} {o : Nat} {t : Int64} (hp1 : p < PR) (hPB : PB P PR) (hw : 0 ≤ wr ∧ wr ≤ 2) (ho : o ≤ 24) (hN : 11000000 ≤ N) (hs : ESI Fv P PR w) (te : TE Fv P w PR o t) (h1 : 0 ≤ F w 144) : OK (fun w2 _ => EPX Fv P PR w w2) (fb_M_end_59 N (gg_M_end N N) w (I p) (I wr) (I o) t) := by
  have pr := hs.1.1.2
  have hr := F_r w 144
  have go : ∀ x : Int, 0 ≤ x → x ≤ 100 → OK (fun w2 _ => EPX Fv P PR w w2) (fb_M_end_82 N (gg_M_end N N) w (I p) (I wr) (I o) t 132 (I p) (I x)) := by
    intro x x0 x1
    unfold fb_M_end_82
    rw [show isK 132 4 = true from by decide, ck_t, inb_at (k := 132) (n := 24) rfl (by omega) (by omega) (by decide), ck_t, lt_e, I_tn (by omega) (by omega), Int.toNat_natCast, wa_e, lit0q]
    have f1 : FR [] [] [132] [] w (wa w 132 p x) := FR.wa FR.rf (by decide)
    have hs1 : ESI Fv P PR (wa w 132 p x) := ESI_fr hs f1 (by decide) (by decide) (by decide) (by decide) (by decide) (by decide) (by decide) (by decide) (by decide) (by decide) (by decide) (by decide) (by decide) (by decide) (by decide) (by decide) (by decide) (by decide) (by decide) (by decide) (by decide) (by decide)
    have k1 : KEEP w (wa w 132 p x) PR := KEEP.fr f1 (by decide) (by decide) (by decide)
    exact ok_mono (e86 p (L := x.toNat) hp1 hPB hw ho (by omega) (by omega) N 0 _ hs1 (TE_keep k1 te) (by rw [A_eq (by omega) (by omega), if_pos rfl]; omega) (Nat.zero_le _) (by omega)) (fun w2 _ h => ⟨h.1, EVX.tr ⟨FR.mo f1 (by decide) (by decide) (by decide) (by decide), fun p => Or.inl (FR.A f1 (by decide)), fun i => by
      rw [A_eq (by omega) (by omega)]
      split
      · exact Or.inr ⟨x0, x1⟩
      · exact Or.inl rfl⟩ h.2.1, KEEP.tr k1 h.2.2⟩)
  unfold fb_M_end_59
  rw [I_F, lit100, decI (by omega) (by omega) (by omega) (by omega)]
  by_cases e : F w 144 ≤ 100
  · rw [decide_eq_true e, br_tq]; exact go _ h1 e
  · rw [decide_eq_false e, br_fq]; exact go 100 (by omega) (by omega)
theorem end_ok (p : Nat) {wr : Int} {o : Nat} {t : Int64} (hp1 : p < PR) (hPB : PB P PR) (hw : 0 ≤ wr ∧ wr ≤ 2) (ho : o ≤ 24) (hN : 11000000 ≤ N) (hs : ESI Fv P PR w) (te : TE Fv P w PR o t) (hat : ATM w) (hP : ∀ t, P t → PA w t) (hS : PS P) : OK (fun w2 _ => EPX Fv P PR w w2) (fm_M_end N w (I p) (I wr) (I o) t) := by
  have pr := hs.1.1.2
  have base : ∀ v, FR [144] [] [143] [141] w v → ESI Fv P PR v ∧ TE Fv P v PR o t ∧ ATM v ∧ (∀ t, P t → PA v t) ∧ KEEP w v PR ∧ EVX w v := fun v f => by
    have k := KEEP.fr (PR := PR) f (by decide) (by decide) (by decide)
    exact ⟨ESI_fr hs f (by decide) (by decide) (by decide) (by decide) (by decide) (by decide) (by decide) (by decide) (by decide) (by decide) (by decide) (by decide) (by decide) (by decide) (by decide) (by decide) (by decide) (by decide) (by decide) (by decide) (by decide) (by decide), TE_keep k te, ATM_fr hat f (by decide) (by decide), PA_fr hP f (by decide), k, EVX.fr f (by decide) (by decide) (by decide) (by decide) (by decide) (by decide)⟩
  have fin : ∀ v, FR [144] [] [143] [141] w v → 0 ≤ F v 144 → OK (fun w2 _ => EPX Fv P PR w w2) (fb_M_end_59 N (gg_M_end N N) v (I p) (I wr) (I o) t) := fun v f h => by
    obtain ⟨b1, b2, -, -, b5, b6⟩ := base v f
    exact ok_mono (e59 p hp1 hPB hw ho hN b1 b2 h) (fun w2 _ q => ⟨q.1, EVX.tr b6 q.2.1, KEEP.tr b5 q.2.2⟩)
  have e42 : ∀ v, FR [144] [] [143] [141] w v → 0 ≤ F v 144 → F v 144 ≤ 30000 → OK (fun w2 _ => EPX Fv P PR w w2) (fb_M_end_42 N (gg_M_end N N) v (I p) (I wr) (I o) t) := fun v f h1 h2 => by
    obtain ⟨b1, b2, b3, b4, b5, b6⟩ := base v f
    unfold fb_M_end_42
    refine ok_bnd.mpr (ok_mono (writeTE (B := 30000) (by omega) b2 ho b3 b4 hS h1 h2 hN) (fun v2 _ q => ?_))
    obtain ⟨q1, q2, q3⟩ := q
    refine ok_br.mpr ⟨fun _ => fin v2 (FR.tr f q1) q2, fun _ => ok_bnd.mpr (ok_mono (sign_ok q2 (by omega)) (fun v3 _ r => ?_))⟩
    exact fin v3 (FR.tr (FR.tr f q1) (FR.mo r.1.1 (by decide) (by decide) (by decide) (by decide))) (by have := r.2; omega)
  have e30 : ∀ v (x : Int), FR [144] [] [143] [141] w v → 0 ≤ F v 144 → F v 144 ≤ 6000 → 0 ≤ x → x < 22 → OK (fun w2 _ => EPX Fv P PR w w2) (fb_M_end_30 N (gg_M_end N N) v (I p) (I wr) (I o) t (I p) 1 (I x)) := fun v x f h1 h2 x0 x1 => by
    obtain ⟨b1, b2, b3, b4, b5, b6⟩ := base v f
    unfold fb_M_end_30
    rw [lit1q, term_e, bnd_so]
    refine ok_bnd.mpr (ok_mono (writeOn_ok (B := 6000) (Fv := Fv) (n := 0) (by omega) (show p < 25 by omega) (by omega) HP_none b3 b4 hS (Or.inl ⟨nh_mk (by omega), hPB.1 x x0 x1⟩) h1 h2 hN) (fun v2 _ q => ?_))
    obtain ⟨q1, q2, q3⟩ := q
    refine ok_bnd.mpr (ok_mono (sign_ok q2 (by omega)) (fun v3 _ r => ?_))
    exact e42 v3 (FR.tr (FR.tr f q1) (FR.mo r.1.1 (by decide) (by decide) (by decide) (by decide))) (by have := r.2; omega) (by have := r.2; omega)
  unfold fm_M_end fb_M_end_0
  rw [lit0q, lt_e, wi_e, decI (by omega) (by omega) (by omega) (by omega)]
  have f0 : FR [144] [] [143] [141] w (wi w 144 0) := FR.wi FR.rf (by decide)
  have z0 : F (wi w 144 0) 144 = 0 := by rw [F_wi (by omega) (by omega), if_pos rfl]
  by_cases e : wr ≤ 0
  · rw [decide_eq_true e, br_tq]
    exact e42 _ f0 (by omega) (by omega)
  · rw [decide_eq_false e, br_fq]
    refine ok_bnd.mpr (ok_mono (sign_ok (by omega) (by omega)) (fun v _ r => ?_))
    have fv : FR [144] [] [143] [141] w v := FR.tr f0 (FR.mo r.1.1 (by decide) (by decide) (by decide) (by decide))
    have := r.2
    exact ok_br.mpr ⟨fun _ => e30 v 7 fv (by omega) (by omega) (by omega) (by omega), fun _ => e30 v 19 fv (by omega) (by omega) (by omega) (by omega)⟩
theorem ae_loop (hPB : PB P PR) (hS : PS P) (hN : 11000000 ≤ N) : ∀ (m : Nat) (w : MS), ESI Fv P PR w → ATM w → (∀ t, P t → PA w t) → 24 - (F w 149).toNat < m → OK (fun w2 _ => ESI Fv P PR w2 ∧ FR [125, 136, 138, 140, 144, 149, 150] [139] [89, 90, 108, 109, 113, 116, 117, 122, 123, 124, 131, 132, 135, 142, 143, 145, 146, 147] [88, 91, 93, 107, 134, 137, 141, 148] w w2 ∧ (∀ p, A w2 109 p = A w 109 p ∨ A w2 109 p = 3) ∧ RLo w w2 ∧ F w2 149 = 0 ∧ F w2 150 = 0) (gg_M_allEnds N m w) := by
  intro m
  induction m with
  | zero => intro w _ _ _ z; exact absurd z (Nat.not_lt_zero _)
  | succ m ih =>
    intro w hs hat hP hm
    have pr := hs.1.1.2
    have d := hs.1
    obtain ⟨⟨d1, d1'⟩, d2, d3, d4, ⟨eF, eM, e1, e2, e3, e4, e5⟩, d6⟩ := id d
    have hc := cE_le w PR
    show OK _ (fb_M_allEnds_0 N (gg_M_allEnds N m) w)
    unfold fb_M_allEnds_0
    rw [I_F' e1, I_F' e2, decI (by omega) (by omega) (by omega) (by omega)]
    by_cases e : eM ≤ eF
    · rw [decide_eq_true (by omega), br_tq, lt_e, lit0q, wi_e, lt_e, wi_e]
      have f0 : FR [149, 150] [] [] [] w (wi (wi w 149 0) 150 0) := FR.wi (FR.wi FR.rf (by decide)) (by decide)
      have a1 : F (wi (wi w 149 0) 150 0) 149 = 0 := by rw [F_wi (by omega) (by omega), if_neg (by decide), F_wi (by omega) (by omega), if_pos rfl]
      have a2 : F (wi (wi w 149 0) 150 0) 150 = 0 := by rw [F_wi (by omega) (by omega), if_pos rfl]
      refine ok_some.mpr ⟨⟨?_, LK_fr hs.2.1 f0 (by decide) (by decide), WT_fr hs.2.2 f0 (by decide) (by decide) (by decide)⟩, FR.mo f0 (by decide) (by decide) (by decide) (by decide), fun p => Or.inl (FR.A f0 (by decide)), fun i => Or.inl (FR.A f0 (by decide)), a1, a2⟩
      have hpz : ∀ x, hp (wi (wi w 149 0) 150 0) x = hp w x := fun x => rfl
      refine ⟨⟨by rw [FR.F f0 (by decide)]; exact d1, d1'⟩, fun p hp1 => PRC_same (d2 p hp1) (FR.A f0 (by decide)) (hpz p) (FR.A f0 (by decide)) (FR.A f0 (by decide)) (FR.A f0 (by decide)) (fun _ _ => rfl) (fun _ _ => rfl) (fun _ _ => rfl) (by rw [FR.F f0 (by decide), d4]; omega), d3, by rw [FR.F f0 (by decide)]; exact d4, ⟨0, 0, a1, a2, Nat.le_refl _, Nat.zero_le _, fun i h1 h2 => absurd h2 (Nat.not_lt_zero _)⟩, fun p hp1 => by rw [FR.A f0 (by decide)]; exact d6 p hp1⟩
    · obtain ⟨q1, q2, q3, q4⟩ := e5 eF (Nat.le_refl _) (by omega)
      rw [decide_eq_false (by omega), br_fq, lt_e, lit1q, I_add, wi_e, inb_at (k := 145) (n := 4000) rfl (by omega) (by omega) (by decide), ck_t, inb_at (k := 146) (n := 4000) rfl (by omega) (by omega) (by decide), ck_t, inb_at (k := 147) (n := 4000) rfl (by omega) (by omega) (by decide), ck_t, inb_at (k := 148) (n := 4000) rfl (by omega) (by omega) (by decide), ck_t, I_tn (by omega) (by omega), Int.toNat_natCast]
      have f0 : FR [149] [] [] [] w (wi w 149 ((eF : Int) + 1)) := FR.wi FR.rf (by decide)
      have a1 : F (wi w 149 ((eF : Int) + 1)) 149 = (eF : Int) + 1 := by rw [F_wi (by omega) (by omega), if_pos rfl]
      have k0 : KEEP w (wi w 149 ((eF : Int) + 1)) PR := KEEP.fr f0 (by decide) (by decide) (by decide)
      have dv : DW Fv P PR (wi w 149 ((eF : Int) + 1)) := by
        refine ⟨⟨by rw [FR.F f0 (by decide)]; exact d1, d1'⟩, fun p hp1 => PRC_same (d2 p hp1) rfl rfl rfl rfl rfl (fun _ _ => rfl) (fun _ _ => rfl) (fun _ _ => rfl) (by rw [FR.F f0 (by decide), d4]; omega), d3, by rw [FR.F f0 (by decide)]; exact d4, ⟨eF + 1, eM, by rw [a1]; omega, by rw [FR.F f0 (by decide)]; exact e2, by omega, by rw [cE_eq (w := w) (w2 := wi w 149 ((eF : Int) + 1)) PR (fun _ _ => rfl)]; exact e4, fun i h1 h2 => ?_⟩, d6⟩
        obtain ⟨r1, r2, r3, r4⟩ := e5 i (by omega) h2
        exact ⟨r1, r2, r3, TE_keep k0 r4⟩
      have hs1 : ESI Fv P PR (wi w 149 ((eF : Int) + 1)) := ⟨dv, LK_fr hs.2.1 f0 (by decide) (by decide), WT_fr hs.2.2 f0 (by decide) (by decide) (by decide)⟩
      have r1 : (wi w 149 ((eF : Int) + 1)).2.2.1 145 eF = I (((A w 145 eF).toNat : Nat) : Int) := I_A' (show A w 145 eF = _ by omega)
      have r2 : (wi w 149 ((eF : Int) + 1)).2.2.1 146 eF = I (A w 146 eF) := I_A
      have r3 : (wi w 149 ((eF : Int) + 1)).2.2.1 147 eF = I (((A w 147 eF).toNat : Nat) : Int) := I_A' (show A w 147 eF = _ by omega)
      rw [r1, r2, r3]
      have te : TE Fv P (wi w 149 ((eF : Int) + 1)) PR (A w 147 eF).toNat ((wi w 149 ((eF : Int) + 1)).2.2.2 148 eF) := TE_keep k0 q4
      refine ok_bnd.mpr (ok_mono (end_ok (A w 145 eF).toNat (by omega) hPB q2 (by omega) hN hs1 te (ATM_fr hat f0 (by decide) (by decide)) (PA_fr hP f0 (by decide)) hS) (fun v _ hv => ?_))
      obtain ⟨v1, ⟨v2, v3, v4⟩, -⟩ := hv
      have f149 : F v 149 = (eF : Int) + 1 := by rw [FR.F v2 (by decide)]; exact a1
      have fv : FR [125, 136, 138, 140, 144, 149, 150] [139] [89, 90, 108, 109, 113, 116, 117, 122, 123, 124, 131, 132, 135, 142, 143, 145, 146, 147] [88, 91, 93, 107, 134, 137, 141, 148] w v := FR.tr (FR.mo f0 (by decide) (by decide) (by decide) (by decide)) (FR.mo v2 (by decide) (by decide) (by decide) (by decide))
      refine ok_mono (ih v v1 (ATM_fr hat fv (by decide) (by decide)) (PA_fr hP fv (by decide)) (by omega)) (fun w2 _ h => ?_)
      obtain ⟨h1, h2, h3, h4, h5⟩ := h
      refine ⟨h1, FR.tr fv h2, fun p => ?_, RLo.tr (fun i => v4 i) h4, h5⟩
      rcases h3 p with z | z
      · rw [z]; exact v3 p
      · exact Or.inr z
theorem allEnds_ok (hPB : PB P PR) (hS : PS P) (hN : 11000000 ≤ N) (hs : ESI Fv P PR w) (hat : ATM w) (hP : ∀ t, P t → PA w t) : OK (fun w2 _ => ESI Fv P PR w2 ∧ FR [125, 136, 138, 140, 144, 149, 150] [139] [89, 90, 108, 109, 113, 116, 117, 122, 123, 124, 131, 132, 135, 142, 143, 145, 146, 147] [88, 91, 93, 107, 134, 137, 141, 148] w w2 ∧ (∀ p, A w2 109 p = A w 109 p ∨ A w2 109 p = 3) ∧ RLo w w2 ∧ F w2 149 = 0 ∧ F w2 150 = 0) (fm_M_allEnds N w) := by
  have : fm_M_allEnds N w = gg_M_allEnds N (N + 1) w := rfl
  rw [this]
  exact ae_loop hPB hS hN (N + 1) w hs hat hP (by omega)
end
end
section
def MEI (Fv : Int64 → Int64 → Prop) (P : Int64 → Prop) (PR : Nat) (w : MS) (p n : Nat) (ow kd : Nat → Nat) (opM bnM bxM : Nat) : Prop :=
  DW Fv P PR w ∧ p < PR ∧ F w 133 = p ∧ A w 109 p ≠ 3 ∧ A w 89 p = ((n : Nat) : Int) ∧ CX w p (hp w p) n ow kd Fv P opM bnM bxM
section
variable {Fv : Int64 → Int64 → Prop} {P : Int64 → Prop} {w w2 : MS} {PR N p n opM bnM bxM n2 opM2 bnM2 bxM2 : Nat} {ow kd ow2 kd2 : Nat → Nat}
theorem MEI_upd (m : MEI Fv P PR w p n ow kd opM bnM bxM) (f : FR [136, 138, 140] [139] [89, 90, 92, 94, 108, 135, 142] [88, 91, 93, 107, 134, 137, 141] w w2) (f140 : F w2 140 = -1) (h89 : ∀ q, q ≠ p → A w2 89 q = A w 89 q) (h92 : ∀ q, q ≠ p → A w2 92 q = A w 92 q) (h94 : ∀ q, q ≠ p → A w2 94 q = A w 94 q) (h108 : ∀ q, q ≠ p → A w2 108 q = A w 108 q)
    (h88 : ∀ i, ¬ (500 * p ≤ i ∧ i < 500 * p + 500) → w2.2.2.2 88 i = w.2.2.2 88 i) (h91 : ∀ i, ¬ (46000 * p ≤ i ∧ i < 46000 * p + 46000) → w2.2.2.2 91 i = w.2.2.2 91 i) (h93 : ∀ i, ¬ (2500 * p ≤ i ∧ i < 2500 * p + 2500) → w2.2.2.2 93 i = w.2.2.2 93 i) (h107 : ∀ i, ¬ (30 * p ≤ i ∧ i < 30 * p + 30) → w2.2.2.2 107 i = w.2.2.2 107 i)
    (c89 : A w2 89 p = ((n2 : Nat) : Int)) (cx : CX w2 p (hp w2 p) n2 ow2 kd2 Fv P opM2 bnM2 bxM2) : MEI Fv P PR w2 p n2 ow2 kd2 opM2 bnM2 bxM2 := by
  obtain ⟨m1, m2, m3, m4, m5, m6⟩ := m
  exact ⟨DW_q m1 m2 m4 ⟨n2, ow2, kd2, opM2, bnM2, bxM2, c89, cx⟩ f f140 h89 h92 h94 h108 h88 h91 h93 h107, m2, by rw [FR.F f (by decide)]; exact m3, by rw [FR.A f (by decide)]; exact m4, c89, cx⟩
theorem MEI_p (m : MEI Fv P PR w p n ow kd opM bnM bxM) : p < 24 := m.2.2.2.2.2.2.2.2.1
theorem put_ok {t : Int64} (m : MEI Fv P PR w p n ow kd opM bnM bxM) (g : GT n ow kd P t) (ho : opM < 46000) : OK (fun w2 _ => w2 = wa (wj w 91 (46000 * p + opM) t) 92 p ((opM : Int) + 1) ∧ MEI Fv P PR w2 p n ow kd (opM + 1) bnM bxM) (fm_M_put N w t) := by
  have m' := m
  obtain ⟨m1, m2, m3, m4, m5, ⟨x1, x2, x3, x4, x5, x6, x7, x8, x9, x10, x11⟩⟩ := m
  have f140 := m1.2.2.2.1
  unfold fm_M_put fb_M_put_0
  rw [I_F' m3, inb_at (k := 92) (n := 24) rfl (by omega) (by omega) (by decide), ck_t, I_tn (x := (p : Int)) (by omega) (by omega), Int.toNat_natCast, I_A' x5.1, show (46000 : Int32) = I 46000 from rfl, I_mul, I_add, inb_at (k := 91) (n := 1104000) rfl (by omega) (by omega) (by decide), ck_t, lt_e, I_tn (by omega) (by omega), show ((p : Int) * 46000 + (opM : Int)).toNat = 46000 * p + opM from by omega, wj_e]
  rw [show (wj w 91 (46000 * p + opM) t).1 133 = I p from I_F' m3, inb_at (k := 92) (n := 24) rfl (by omega) (by omega) (by decide), ck_t, ck_t, lt_e, I_tn (by omega) (by omega), Int.toNat_natCast, show (wj w 91 (46000 * p + opM) t).2.2.1 92 p = I opM from I_A' x5.1, lit1q, I_add, wa_e]
  generalize hz : wa (wj w 91 (46000 * p + opM) t) 92 p ((opM : Int) + 1) = z
  have fz : FR [] [] [92] [91] w z := by rw [← hz]; exact FR.wa (FR.wj FR.rf (by decide)) (by decide)
  have a92 : ∀ i, A z 92 i = if i = p then (opM : Int) + 1 else A w 92 i := fun i => by rw [← hz, A_eq (by omega) (by omega)]; rfl
  have j91 : ∀ i, z.2.2.2 91 i = if i = 46000 * p + opM then t else w.2.2.2 91 i := fun i => by rw [← hz, J_wa, J_wj, if_pos rfl]
  have hpz : hp z p = hp w p := by unfold hp; rw [fz.2.2.2 88 (by decide)]
  have z140 : F z 140 = -1 := by rw [FR.F fz (by decide)]; exact f140
  refine ok_some.mpr ⟨rfl, MEI_upd m' (FR.mo fz (by decide) (by decide) (by decide) (by decide)) z140 (fun q _ => FR.A fz (by decide)) (fun q hq => by rw [a92, if_neg hq]) (fun q _ => FR.A fz (by decide)) (fun q _ => FR.A fz (by decide)) (fun i _ => by rw [fz.2.2.2 88 (by decide)]) (fun i hi => by rw [j91, if_neg (by omega)]) (fun i _ => by rw [fz.2.2.2 93 (by decide)]) (fun i _ => by rw [fz.2.2.2 107 (by decide)]) (by rw [FR.A fz (by decide)]; exact m5) ⟨rfl, by rw [hpz]; exact x2, x3, x4, ⟨by rw [a92, if_pos rfl]; omega, by omega⟩, by rw [FR.A fz (by decide)]; exact x6, by rw [FR.A fz (by decide)]; exact x7, fun i hi => ?_, fun i hi => by rw [fz.2.2.2 93 (by decide)]; exact x9 i hi, fun i hi => by rw [fz.2.2.2 107 (by decide)]; exact x10 i hi, fun e => by omega⟩⟩
  rw [j91]
  by_cases e : i = opM
  · subst e; rw [if_pos rfl]; exact g
  · rw [if_neg (by omega)]; exact x8 i (by omega)
theorem ops_less (m : MEI Fv P PR w p n ow kd opM bnM bxM) {k : Nat} (hk : k ≤ opM) : MEI Fv P PR (wa w 92 p k) p n ow kd k bnM bxM := by
  have m' := m
  obtain ⟨m1, m2, m3, m4, m5, ⟨x1, x2, x3, x4, x5, x6, x7, x8, x9, x10, x11⟩⟩ := m
  have fz : FR [] [] [92] [] w (wa w 92 p k) := FR.wa FR.rf (by decide)
  exact MEI_upd m' (FR.mo fz (by decide) (by decide) (by decide) (by decide)) m1.2.2.2.1 (fun q _ => FR.A fz (by decide)) (fun q hq => by rw [A_eq (by omega) (by omega), if_neg hq]) (fun q _ => FR.A fz (by decide)) (fun q _ => FR.A fz (by decide)) (fun _ _ => rfl) (fun _ _ => rfl) (fun _ _ => rfl) (fun _ _ => rfl) (by rw [FR.A fz (by decide)]; exact m5) ⟨rfl, x2, x3, x4, ⟨by rw [A_eq (by omega) (by omega), if_pos rfl], by omega⟩, by rw [FR.A fz (by decide)]; exact x6, by rw [FR.A fz (by decide)]; exact x7, fun i hi => x8 i (by omega), x9, x10, fun e => by have : F w 140 = p := e; have := m1.2.2.2.1; omega⟩
theorem names_less (m : MEI Fv P PR w p n ow kd opM bnM bxM) {k : Nat} (hk : k ≤ bnM) : MEI Fv P PR (wa w 94 p k) p n ow kd opM k bxM := by
  have m' := m
  obtain ⟨m1, m2, m3, m4, m5, ⟨x1, x2, x3, x4, x5, x6, x7, x8, x9, x10, x11⟩⟩ := m
  have fz : FR [] [] [94] [] w (wa w 94 p k) := FR.wa FR.rf (by decide)
  exact MEI_upd m' (FR.mo fz (by decide) (by decide) (by decide) (by decide)) m1.2.2.2.1 (fun q _ => FR.A fz (by decide)) (fun q _ => FR.A fz (by decide)) (fun q hq => by rw [A_eq (by omega) (by omega), if_neg hq]) (fun q _ => FR.A fz (by decide)) (fun _ _ => rfl) (fun _ _ => rfl) (fun _ _ => rfl) (fun _ _ => rfl) (by rw [FR.A fz (by decide)]; exact m5) ⟨rfl, x2, x3, x4, by rw [FR.A fz (by decide)]; exact x5, ⟨by rw [A_eq (by omega) (by omega), if_pos rfl], by omega⟩, by rw [FR.A fz (by decide)]; exact x7, x8, fun i hi => x9 i (by omega), x10, fun e => by have : F w 140 = p := e; have := m1.2.2.2.1; omega⟩
theorem take_ok (m : MEI Fv P PR w p n ow kd (opM + 1) bnM bxM) : OK (fun w2 r => w2 = wa w 92 p opM ∧ r = w.2.2.2 91 (46000 * p + opM) ∧ GT n ow kd P r ∧ MEI Fv P PR w2 p n ow kd opM bnM bxM) (fm_M_take N w) := by
  have m' := m
  obtain ⟨m1, m2, m3, m4, m5, ⟨x1, x2, x3, x4, x5, x6, x7, x8, x9, x10, x11⟩⟩ := m
  unfold fm_M_take fb_M_take_0
  rw [I_F' m3, inb_at (k := 92) (n := 24) rfl (by omega) (by omega) (by decide), ck_t, ck_t, lt_e, I_tn (x := (p : Int)) (by omega) (by omega), Int.toNat_natCast, I_A' x5.1, lit1q, I_sub, show ((opM + 1 : Nat) : Int) - 1 = (opM : Int) from by omega, wa_e]
  rw [show (wa w 92 p opM).1 133 = I p from I_F' m3, inb_at (k := 92) (n := 24) rfl (by omega) (by omega) (by decide), ck_t, I_tn (x := (p : Int)) (by omega) (by omega), Int.toNat_natCast, I_A' (show A (wa w 92 p opM) 92 p = opM by rw [A_eq (by omega) (by omega), if_pos rfl]), show (46000 : Int32) = I 46000 from rfl, I_mul, I_add, inb_at (k := 91) (n := 1104000) rfl (by omega) (by omega) (by decide), ck_t, I_tn (by omega) (by omega), show ((p : Int) * 46000 + (opM : Int)).toNat = 46000 * p + opM from by omega]
  exact ok_some.mpr ⟨rfl, rfl, x8 opM (by omega), ops_less m' (by omega)⟩
theorem top_ok {k : Nat} (m : MEI Fv P PR w p n ow kd opM bnM bxM) (hk : k < opM) : fm_M_top N w (I k) = some (w, w.2.2.2 91 (46000 * p + (opM - 1 - k))) ∧ GT n ow kd P (w.2.2.2 91 (46000 * p + (opM - 1 - k))) := by
  obtain ⟨m1, m2, m3, m4, m5, ⟨x1, x2, x3, x4, x5, x6, x7, x8, x9, x10, x11⟩⟩ := m
  refine ⟨?_, x8 _ (by omega)⟩
  unfold fm_M_top fb_M_top_0
  rw [I_F' m3, inb_at (k := 92) (n := 24) rfl (by omega) (by omega) (by decide), ck_t, I_tn (x := (p : Int)) (by omega) (by omega), Int.toNat_natCast, I_A' x5.1, show (46000 : Int32) = I 46000 from rfl, I_mul, I_add, lit1q, I_sub, I_sub, inb_at (k := 91) (n := 1104000) rfl (by omega) (by omega) (by decide), ck_t, I_tn (by omega) (by omega), show ((p : Int) * 46000 + (opM : Int) - 1 - (k : Int)).toNat = 46000 * p + (opM - 1 - k) from by omega]
theorem MEI_fr {is ls as js : List Nat} (m : MEI Fv P PR w p n ow kd opM bnM bxM) (f : FR is ls as js w w2) (i0 : 133 ∉ is) (i1 : 118 ∉ is) (i2 : 140 ∉ is) (i3 : 149 ∉ is) (i4 : 150 ∉ is) (a1 : 89 ∉ as) (a2 : 92 ∉ as) (a3 : 94 ∉ as) (a4 : 108 ∉ as) (a5 : 109 ∉ as) (a6 : 145 ∉ as) (a7 : 146 ∉ as) (a8 : 147 ∉ as) (j1 : 88 ∉ js) (j2 : 91 ∉ js) (j3 : 93 ∉ js) (j4 : 107 ∉ js) (j5 : 148 ∉ js) : MEI Fv P PR w2 p n ow kd opM bnM bxM := by
  obtain ⟨m1, m2, m3, m4, m5, ⟨x1, x2, x3, x4, x5, x6, x7, x8, x9, x10, x11⟩⟩ := m
  have hpz : hp w2 p = hp w p := by unfold hp; rw [f.2.2.2 88 j1]
  have f140 : F w2 140 = -1 := by rw [FR.F f i2]; exact m1.2.2.2.1
  exact ⟨DW_fr m1 f i1 i2 i3 i4 a1 a2 a3 a4 a5 a6 a7 a8 j1 j2 j3 j4 j5, m2, by rw [FR.F f i0]; exact m3, by rw [FR.A f a5]; exact m4, by rw [FR.A f a1]; exact m5, rfl, by rw [hpz]; exact x2, x3, x4, by rw [FR.A f a2]; exact x5, by rw [FR.A f a3]; exact x6, by rw [FR.A f a4]; exact x7, fun i hi => by rw [f.2.2.2 91 j2]; exact x8 i hi, fun i hi => by rw [f.2.2.2 93 j3]; exact x9 i hi, fun i hi => by rw [f.2.2.2 107 j4]; exact x10 i hi, fun e => by omega⟩
end
end
section
section
variable {Fv : Int64 → Int64 → Prop} {P : Int64 → Prop} {w w2 : MS} {PR N p n opM bnM bxM : Nat} {ow kd : Nat → Nat}
theorem MEI_alloc {m : Nat} {x : Int64} (i : MEI Fv P PR w p n ow kd opM bnM bxM) (f : FR [] [] [89] [88] w w2) (h89 : ∀ q, A w2 89 q = if q = p then ((n + m : Nat) : Int) else A w 89 q) (h5 : n + m ≤ 500) (h88 : ∀ j, ¬ (500 * p + n ≤ j ∧ j < 500 * p + n + m) → w2.2.2.2 88 j = w.2.2.2 88 j)
    (hx : isH x) (h0 : 0 ≤ va x) (hv : vn x = n) (hb : blk (hp w2 p) x = m) (b2 : so x = 5 → HDC (hp w2 p n)) (b3 : so x = 3 → 0 ≤ va (hp w2 p (n + 1)) ∧ Fv (hp w2 p n) (hp w2 p (n + 1))) (hg : ∀ j, prt x ≤ j → j < m → GT n ow kd P (hp w2 p (n + j)))
    (hs : (so x = 5 ∧ m = 3 ∧ ¬ isH (hp w2 p (n + 1))) ∨ ∀ f c, (∀ j, prt x ≤ j → j < m → SZ (hp w p) n ow kd Fv P f (hp w2 p (n + j)) (c j)) → m + smm c (prt x) (m - prt x) ≤ 500) :
    ∃ ow2 kd2, MEI Fv P PR w2 p (n + m) ow2 kd2 opM bnM bxM ∧ GT (n + m) ow2 kd2 P x ∧ (∀ t, GT n ow kd P t → GT (n + m) ow2 kd2 P t) ∧ (∀ f t s, SZ (hp w p) n ow kd Fv P f t s → SZ (hp w2 p) (n + m) ow2 kd2 Fv P f t s) := by
  have i' := i
  obtain ⟨m1, m2, m3, m4, m5, ⟨x1, x2, x3, x4, x5, x6, x7, x8, x9, x10, x11⟩⟩ := i
  have cell : ∀ j, j < n → hp w2 p j = hp w p j := fun j hj => by unfold hp; exact h88 _ (by omega)
  obtain ⟨ow2, kd2, g1, g2, g3, g4, -⟩ := HP_new x2 cell hx h0 hv hb b2 b3 hg hs
  have f140 : F w2 140 = -1 := by rw [FR.F f (by decide)]; exact m1.2.2.2.1
  refine ⟨ow2, kd2, MEI_upd i' (FR.mo f (by decide) (by decide) (by decide) (by decide)) f140 (fun q hq => by rw [h89, if_neg hq]) (fun q _ => FR.A f (by decide)) (fun q _ => FR.A f (by decide)) (fun q _ => FR.A f (by decide)) (fun j hj => h88 j (by omega)) (fun _ _ => by rw [f.2.2.2 91 (by decide)]) (fun _ _ => by rw [f.2.2.2 93 (by decide)]) (fun _ _ => by rw [f.2.2.2 107 (by decide)]) (by rw [h89, if_pos rfl]) ⟨rfl, g1, h5, x4, by rw [FR.A f (by decide)]; exact x5, by rw [FR.A f (by decide)]; exact x6, by rw [FR.A f (by decide)]; exact x7, fun j hj => by rw [f.2.2.2 91 (by decide)]; exact g3 _ (x8 j hj), fun j hj => by rw [f.2.2.2 93 (by decide)]; exact g3 _ (x9 j hj), fun j hj => by rw [f.2.2.2 107 (by decide)]; exact g3 _ (x10 j hj), fun e => by omega⟩, g2, g3, g4⟩
theorem two_ok {a : Int} {t : Int64} (i : MEI Fv P PR w p n ow kd opM bnM bxM) (hPB : PB P PR) (ha : 0 ≤ a ∧ a < 22) (g : GT n ow kd P t) (h5 : n + 3 ≤ 500) :
    OK (fun w2 r => FR [] [] [89] [88] w w2 ∧ ∃ ow2 kd2, MEI Fv P PR w2 p (n + 3) ow2 kd2 opM bnM bxM ∧ GT (n + 3) ow2 kd2 P r ∧ (∀ t, GT n ow kd P t → GT (n + 3) ow2 kd2 P t)) (fm_M_two N w (I a) t) := by
  have x4 := MEI_p i
  have m3 := i.2.2.1
  have m5 := i.2.2.2.2.1
  unfold fm_M_two fb_M_two_0
  rw [I_F' m3, inb_at (k := 89) (n := 25) rfl (by omega) (by omega) (by decide), ck_t, lt_e, I_tn (x := (p : Int)) (by omega) (by omega), Int.toNat_natCast, I_A' m5, lit500, I_mul, I_add, inb_at (k := 88) (n := 12500) rfl (by omega) (by omega) (by decide), ck_t, lt_e, I_tn (by omega) (by omega), show ((p : Int) * 500 + (n : Int)).toNat = 500 * p + n from by omega, wj_e, lit1q, term_e, bnd_so, I_add, inb_at (k := 88) (n := 12500) rfl (by omega) (by omega) (by decide), ck_t, lt_e, I_tn (by omega) (by omega), show ((p : Int) * 500 + (n : Int) + 1).toNat = 500 * p + (n + 1) from by omega, wj_e, show (2 : Int32) = I 2 from rfl, I_add, inb_at (k := 88) (n := 12500) rfl (by omega) (by omega) (by decide), ck_t, lt_e, I_tn (by omega) (by omega), show ((p : Int) * 500 + (n : Int) + 2).toNat = 500 * p + (n + 2) from by omega, wj_e]
  generalize hv : wj (wj (wj w 88 (500 * p + n) 2) 88 (500 * p + (n + 1)) (mk 1 a)) 88 (500 * p + (n + 2)) t = v
  have fv : FR [] [] [89] [88] w v := by rw [← hv]; exact FR.wj (FR.wj (FR.wj FR.rf (by decide)) (by decide)) (by decide)
  have v133 : F v 133 = p := by rw [FR.F fv (by decide)]; exact m3
  have v89 : A v 89 p = n := by rw [← hv]; exact m5
  rw [I_F' v133, inb_at (k := 89) (n := 25) rfl (by omega) (by omega) (by decide), ck_t, ck_t, lt_e, I_tn (x := (p : Int)) (by omega) (by omega), Int.toNat_natCast, I_A' v89, show (3 : Int32) = I 3 from rfl, I_add, wa_e]
  rw [show (wa v 89 p ((n : Int) + 3)).1 133 = I p from I_F' v133, inb_at (k := 89) (n := 25) rfl (by omega) (by omega) (by decide), ck_t, I_tn (x := (p : Int)) (by omega) (by omega), Int.toNat_natCast, I_A' (show A (wa v 89 p ((n : Int) + 3)) 89 p = (n : Int) + 3 by rw [A_eq (by omega) (by omega), if_pos rfl]), I_sub, show (n : Int) + 3 - 3 = (n : Int) from by omega, show (5 : Int32) = I 5 from rfl, term_e, bnd_so]
  have c : ∀ j, hp (wa v 89 p ((n : Int) + 3)) p j = if j = n + 2 then t else if j = n + 1 then mk 1 a else if j = n then 2 else hp w p j := fun j => by
    show hp v p j = _
    rw [← hv, hp_wj, hp_wj, hp_wj]
  have e5 : so (mk 5 (n : Int)) = 5 := so_mk (by omega) (by omega)
  have v5 : va (mk 5 (n : Int)) = n := va_mk (by omega) (by omega)
  have n5 : vn (mk 5 (n : Int)) = n := by unfold vn; rw [v5]; omega
  have va2 : va (2 : Int64) = 2 := by decide
  have c0 : hp (wa v 89 p ((n : Int) + 3)) p n = 2 := by rw [c, if_neg (by omega), if_neg (by omega), if_pos rfl]
  have c1 : hp (wa v 89 p ((n : Int) + 3)) p (n + 1) = mk 1 a := by rw [c, if_neg (by omega), if_pos rfl]
  have c2 : hp (wa v 89 p ((n : Int) + 3)) p (n + 2) = t := by rw [c, if_pos rfl]
  have bb : blk (hp (wa v 89 p ((n : Int) + 3)) p) (mk 5 (n : Int)) = 3 := by unfold blk; rw [e5, n5, c0]; simp; unfold vn; rw [va2]; decide
  have pp : prt (mk 5 (n : Int)) = 1 := by unfold prt; rw [e5]; rfl
  have na : ¬ isH (mk 1 a) := nh_mk (by omega)
  have fz : FR [] [] [89] [88] w (wa v 89 p ((n : Int) + 3)) := FR.wa fv (by decide)
  obtain ⟨ow2, kd2, r1, r2, r3, -⟩ := MEI_alloc (m := 3) (x := mk 5 (n : Int)) i fz (fun q => by
    rw [A_eq (by omega) (by omega)]
    by_cases e : q = p
    · rw [if_pos e, if_pos e]; omega
    · rw [if_neg e, if_neg e, ← hv]; rfl) h5 (fun j hj => by
    show v.2.2.2 88 j = _
    rw [← hv, J_wj, if_pos rfl, if_neg (by omega), J_wj, if_pos rfl, if_neg (by omega), J_wj, if_pos rfl, if_neg (by omega)]) (Or.inr (Or.inl e5)) (by omega) n5 bb (fun _ => by rw [c0]; exact HDC2) (fun e => by omega) (fun j h1 h2 => by
    rw [pp] at h1
    by_cases e : j = 1
    · rw [e, c1]; exact Or.inl ⟨na, hPB.1 a ha.1 ha.2⟩
    · have : j = 2 := by omega
      rw [this, c2]; exact g) (Or.inl ⟨e5, rfl, by rw [c1]; exact na⟩)
  exact ok_some.mpr ⟨fz, ow2, kd2, r1, r2, r3⟩
theorem pair_ok {a b : Int64} {f sa sb : Nat} (i : MEI Fv P PR w p n ow kd opM bnM bxM) (za : SZ (hp w p) n ow kd Fv P f a sa) (zb : SZ (hp w p) n ow kd Fv P f b sb) (h5 : n + 2 ≤ 500) (hs : 2 + sa + sb ≤ 500) :
    OK (fun w2 r => FR [] [] [89] [88] w w2 ∧ r = I n ∧ ∃ ow2 kd2 f2, MEI Fv P PR w2 p (n + 2) ow2 kd2 opM bnM bxM ∧ SZ (hp w2 p) (n + 2) ow2 kd2 Fv P f2 (mk 7 n) (2 + sa + sb) ∧ (∀ t, GT n ow kd P t → GT (n + 2) ow2 kd2 P t) ∧ (∀ f t s, SZ (hp w p) n ow kd Fv P f t s → SZ (hp w2 p) (n + 2) ow2 kd2 Fv P f t s)) (fm_M_pair N w a b) := by
  have x4 := MEI_p i
  have m3 := i.2.2.1
  have m5 := i.2.2.2.2.1
  have x3 := i.2.2.2.2.2.2.2.1
  unfold fm_M_pair fb_M_pair_0
  rw [I_F' m3, inb_at (k := 89) (n := 25) rfl (by omega) (by omega) (by decide), ck_t, lt_e, I_tn (x := (p : Int)) (by omega) (by omega), Int.toNat_natCast, I_A' m5, lit500, I_mul, I_add, inb_at (k := 88) (n := 12500) rfl (by omega) (by omega) (by decide), ck_t, lt_e, I_tn (by omega) (by omega), show ((p : Int) * 500 + (n : Int)).toNat = 500 * p + n from by omega, wj_e, show (wj w 88 (500 * p + n) a).1 133 = I p from I_F' m3, I_mul, I_add, lit1q, I_add, inb_at (k := 88) (n := 12500) rfl (by omega) (by omega) (by decide), ck_t, lt_e, I_tn (by omega) (by omega), show ((p : Int) * 500 + (n : Int) + 1).toNat = 500 * p + (n + 1) from by omega, wj_e]
  generalize hv : wj (wj w 88 (500 * p + n) a) 88 (500 * p + (n + 1)) b = v
  have fv : FR [] [] [89] [88] w v := by rw [← hv]; exact FR.wj (FR.wj FR.rf (by decide)) (by decide)
  have v133 : F v 133 = p := by rw [FR.F fv (by decide)]; exact m3
  have v89 : A v 89 p = n := by rw [← hv]; exact m5
  rw [I_F' v133, inb_at (k := 89) (n := 25) rfl (by omega) (by omega) (by decide), ck_t, ck_t, lt_e, I_tn (x := (p : Int)) (by omega) (by omega), Int.toNat_natCast, I_A' v89, show (2 : Int32) = I 2 from rfl, I_add, wa_e]
  have c : ∀ j, hp (wa v 89 p ((n : Int) + 2)) p j = if j = n + 1 then b else if j = n then a else hp w p j := fun j => by
    show hp v p j = _
    rw [← hv, hp_wj, hp_wj]
  have e5 : so (mk 7 (n : Int)) = 7 := so_mk (by omega) (by omega)
  have v5 : va (mk 7 (n : Int)) = n := va_mk (by omega) (by omega)
  have n5 : vn (mk 7 (n : Int)) = n := by unfold vn; rw [v5]; omega
  have c0 : hp (wa v 89 p ((n : Int) + 2)) p n = a := by rw [c, if_neg (by omega), if_pos rfl]
  have c1 : hp (wa v 89 p ((n : Int) + 2)) p (n + 1) = b := by rw [c, if_pos rfl]
  have bb : blk (hp (wa v 89 p ((n : Int) + 2)) p) (mk 7 (n : Int)) = 2 := by unfold blk; rw [e5]; rfl
  have pp : prt (mk 7 (n : Int)) = 0 := by unfold prt; rw [e5]; rfl
  have fz : FR [] [] [89] [88] w (wa v 89 p ((n : Int) + 2)) := FR.wa fv (by decide)
  have hx : isH (mk 7 (n : Int)) := Or.inr (Or.inr e5)
  have parts : ∀ (Q : Nat → Prop), Q 0 → Q 1 → ∀ j, prt (mk 7 (n : Int)) ≤ j → j < 2 → Q j := fun Q q0 q1 j h1 h2 => by
    by_cases e : j = 0
    · rw [e]; exact q0
    · have : j = 1 := by omega
      rw [this]; exact q1
  obtain ⟨ow2, kd2, r1, r2, r3, r4⟩ := MEI_alloc (m := 2) (x := mk 7 (n : Int)) i fz (fun q => by
    rw [A_eq (by omega) (by omega)]
    by_cases e : q = p
    · rw [if_pos e, if_pos e]; omega
    · rw [if_neg e, if_neg e, ← hv]; rfl) h5 (fun j hj => by
    show v.2.2.2 88 j = _
    rw [← hv, J_wj, if_pos rfl, if_neg (by omega), J_wj, if_pos rfl, if_neg (by omega)]) hx (by omega) n5 bb (fun e => by omega) (fun e => by omega) (parts _ (by rw [Nat.add_zero, c0]; exact SZ_gt za) (by rw [c1]; exact SZ_gt zb)) (Or.inr (fun f2 cc hc => by
    have q0 := hc 0 (by rw [pp]; omega) (by omega)
    have q1 := hc 1 (by rw [pp]; omega) (by omega)
    rw [Nat.add_zero, c0] at q0
    rw [c1] at q1
    rw [pp]
    show 2 + (0 + cc (0 + 0) + cc (0 + 1)) ≤ 500
    rw [show cc (0 + 0) = sa from SZ_fun q0 za, show cc (0 + 1) = sb from SZ_fun q1 zb]; omega))
  refine ok_some.mpr ⟨fz, rfl, ow2, kd2, f + 1, r1, ?_, r3, r4⟩
  have bk := (HP_bk r1.2.2.2.2.2.2.1 hx r2).1
  refine Or.inr ⟨hx, bk, fun j => if j = 0 then sa else sb, ?_, ?_⟩
  · rw [bb, n5]
    exact parts (fun j => SZ (hp (wa v 89 p ((n : Int) + 2)) p) (n + 2) ow2 kd2 Fv P f (hp (wa v 89 p ((n : Int) + 2)) p (n + j)) (if j = 0 then sa else sb)) (by show SZ _ _ _ _ _ _ _ (hp (wa v 89 p ((n : Int) + 2)) p n) sa; rw [c0]; exact r4 _ _ _ za) (by show SZ _ _ _ _ _ _ _ (hp (wa v 89 p ((n : Int) + 2)) p (n + 1)) sb; rw [c1]; exact r4 _ _ _ zb)
  · rw [bb, pp]
    show 2 + sa + sb = 2 + (0 + (if 0 + 0 = 0 then sa else sb) + (if 0 + 1 = 0 then sa else sb))
    simp; omega
end
end
section
def chi (pE : Nat → Nat) (q : Nat) : Nat → Nat
  | 0 => q
  | k + 1 => pE (chi pE q k)
def CHN (w : MS) (pE : Nat → Nat) (q m e : Nat) : Prop := chi pE q m = e ∧ (∀ k, k < m → chi pE q k < e) ∧ ∀ k, k + 1 < m → A w 37 (chi pE q k) = ((chi pE q (k + 1) : Nat) : Int)
def PW (w : MS) (pM pE : Nat → Nat) (PN SN L q : Nat) : Prop :=
  q < pE q ∧ pE q ≤ PN ∧ 0 ≤ A w 33 q ∧ A w 33 q ≤ 6 ∧
  (A w 33 q = 0 ∨ A w 33 q = 3 → pM (q + 1) = pM q ∧ pE q = q + 1) ∧
  (A w 33 q = 1 → pM (q + 1) = pM q + 1 ∧ pE q = q + 1) ∧
  (A w 33 q = 2 → pM (q + 1) = pM q ∧ pE q = q + 1 ∧ ((0 ≤ A w 35 q ∧ A w 35 q < pM q) ∨ (A w 35 q ≤ -2 ∧ -2 - A w 35 q < L))) ∧
  (A w 33 q = 4 → pM (q + 1) = pM q ∧ pE q = q + 1 ∧ 0 ≤ A w 35 q ∧ A w 35 q < SN) ∧
  (A w 33 q = 5 → pM (q + 1) = pM q ∧ ∃ m : Nat, A w 35 q = m ∧ m ≤ 8 ∧ CHN w pE (q + 1) m (pE q) ∧ ((m = 0 ∧ A w 36 q = -1) ∨ (0 < m ∧ A w 36 q = ((q + 1 : Nat) : Int) ∧ A w 37 (chi pE (q + 1) (m - 1)) = -1))) ∧
  (A w 33 q = 6 → pM (q + 1) = pM q ∧ ∃ m : Nat, A w 35 q = m ∧ m ≤ 8 ∧ (A w 38 q = 0 ∨ 0 < m) ∧ CHN w pE (q + 1) (if A w 38 q = 0 then m else m + 1) (pE q) ∧ (m = 0 ∨ A w 36 q = ((q + 1 : Nat) : Int)))
def STR (w : MS) (SN : Nat) : Prop := SN ≤ 2001 ∧ ∀ s, s < SN → 0 ≤ A w 19 s ∧ A w 19 s ≤ A w 19 (s + 1) ∧ A w 19 (s + 1) ≤ 4002
section
variable {Fv : Int64 → Int64 → Prop} {P : Int64 → Prop} {w w2 : MS} {PR N p n opM bnM bxM SN : Nat} {ow kd : Nat → Nat}
theorem is_loop {s : Nat} (i : MEI Fv P PR w p n ow kd opM bnM bxM) (hs : STR w SN) (h : s < SN) : ∀ (m k : Nat) (x : Int64), GT n ow kd P x → (k : Int) ≤ A w 19 (s + 1) → (A w 19 (s + 1)).toNat - k < m → OK (fun w2 r => w2 = w ∧ (r = I 0 ∨ r = I 1)) (gg_M_isString N m w (I s) x (I k)) := by
  have x4 := MEI_p i
  obtain ⟨s1, s2⟩ := hs
  obtain ⟨b1, b2, b3⟩ := s2 s h
  have g := i.2.2.2.2.2.2.1
  have x3 := i.2.2.2.2.2.2.2.1
  have me := i.2.2.1
  intro m
  induction m with
  | zero => intro k x _ _ z; exact absurd z (Nat.not_lt_zero _)
  | succ m ih =>
    intro k x gx hk hm
    have rx := so_r x
    show OK _ (fb_M_isString_11 N (gg_M_isString N m) w (I s) x (I k))
    unfold fb_M_isString_11 fb_M_isString_102 fb_M_isString_62
    rw [lit1q, I_add, inb_at (k := 19) (n := 2002) rfl (by omega) (by omega) (by decide), ck_t, I_tn (by omega) (by omega), show ((s : Int) + 1).toNat = s + 1 from by omega, I_A (k := 19), decI (by omega) (by omega) (by omega) (by omega), sortOf_e, bnd_so, show (6 : Int32) = I 6 from rfl, show (7 : Int32) = I 7 from rfl]
    by_cases e : A w 19 (s + 1) ≤ k
    · rw [decide_eq_true e, br_tq]
      exact ok_br.mpr ⟨fun _ => ok_ck.mpr ⟨rfl, ok_some.mpr ⟨rfl, Or.inr rfl⟩⟩, fun _ => ok_ck.mpr ⟨rfl, ok_some.mpr ⟨rfl, Or.inl rfl⟩⟩⟩
    rw [decide_eq_false e, br_fq, bnd_so, decE rx.1 rx.2 (by omega) (by omega)]
    by_cases e7 : so x = 7
    · have hx : isH x := Or.inr (Or.inr e7)
      obtain ⟨bk, pt⟩ := HP_bk g hx gx
      have bb : blk (hp w p) x = 2 := by unfold blk; rw [e7]; rfl
      have pp : prt x = 0 := by unfold prt; rw [e7]; rfl
      have bn := bk.2.2.2.1
      have vx : va x = (vn x : Int) := by have := bk.1; unfold vn; omega
      rw [decide_eq_true e7, br_tq, valueOf_e, bnd_so, I_F' me, vx, cell_e (by omega) (by omega), bnd_so, inb_at (k := 18) (n := 4002) rfl (by omega) (by omega) (by decide), ck_t, lit0q, I_A (k := 18), term_e, bnd_so]
      refine ok_br.mpr ⟨fun _ => ?_, fun _ => ok_ck.mpr ⟨rfl, ok_some.mpr ⟨rfl, Or.inl rfl⟩⟩⟩
      rw [I_F' me, valueOf_e, bnd_so, vx, I_add, show (vn x : Int) + 1 = ((vn x + 1 : Nat) : Int) from by omega, cell_e (by omega) (by omega), bnd_so, I_add]
      exact ih (k + 1) _ (pt 1 (by omega) (by omega)) (by omega) (by omega)
    · rw [decide_eq_false e7, br_fq]
      exact ok_ck.mpr ⟨rfl, ok_some.mpr ⟨rfl, Or.inl rfl⟩⟩
theorem isString_ok {s : Nat} {x : Int64} (i : MEI Fv P PR w p n ow kd opM bnM bxM) (hs : STR w SN) (h : s < SN) (gx : GT n ow kd P x) (hN : 5000 ≤ N) : OK (fun w2 r => w2 = w ∧ (r = I 0 ∨ r = I 1)) (fm_M_isString N w (I s) x) := by
  obtain ⟨b1, b2, b3⟩ := hs.2 s h
  have := hs.1
  unfold fm_M_isString fb_M_isString_0
  rw [inb_at (k := 19) (n := 2002) rfl (by omega) (by omega) (by decide), ck_t, I_tn (by omega) (by omega), Int.toNat_natCast, I_A' (show A w 19 s = (((A w 19 s).toNat : Nat) : Int) by omega)]
  exact is_loop i hs h N _ x gx (by omega) (by omega)
def FRA (w : MS) (p fr rn rh : Nat) : Prop := A w 95 p = ((fr : Nat) : Int) ∧ 1 ≤ fr ∧ fr ≤ 60 ∧ A w 99 (60 * p + (fr - 1)) = ((rn : Nat) : Int) ∧ A w 101 (60 * p + (fr - 1)) = ((rh : Nat) : Int)
theorem frame0_e {fr rn rh : Nat} (i : MEI Fv P PR w p n ow kd opM bnM bxM) (hf : FRA w p fr rn rh) : fm_M_frame0 N w = some (w, I ((60 * p + (fr - 1) : Nat) : Int)) := by
  have x4 := MEI_p i
  obtain ⟨f1, f2, f3, -⟩ := hf
  unfold fm_M_frame0 fb_M_frame0_0
  rw [I_F' i.2.2.1, inb_at (k := 95) (n := 24) rfl (by omega) (by omega) (by decide), ck_t, I_tn (by omega) (by omega), Int.toNat_natCast, I_A' f1, show (60 : Int32) = I 60 from rfl, I_mul, I_add, lit1q, I_sub, show (p : Int) * 60 + (fr : Int) - 1 = ((60 * p + (fr - 1) : Nat) : Int) from by omega]
theorem nameAt_ok {fr rn rh m : Nat} {c : Int} (i : MEI Fv P PR w p n ow kd opM bnM bxM) (hf : FRA w p fr rn rh) (hb : bnM = rn + rh + m) (hc : (0 ≤ c ∧ c < m) ∨ (c ≤ -2 ∧ -2 - c < rh)) (hc2 : -100000 ≤ c) : OK (fun w2 r => w2 = w ∧ GT n ow kd P r) (fm_M_nameAt N w (I c)) := by
  have x4 := MEI_p i
  obtain ⟨f1, f2, f3, f4, f5⟩ := id hf
  have x6 := i.2.2.2.2.2.2.2.2.2.2.1
  have x9 := i.2.2.2.2.2.2.2.2.2.2.2.2.2.1
  unfold fm_M_nameAt fb_M_nameAt_0 fb_M_nameAt_43
  rw [frame0_e i hf, bnd_so, inb_at (k := 99) (n := 1440) rfl (by omega) (by omega) (by decide), ck_t, lit0q, decI (by omega) (by omega) (by omega) (by omega), I_tn (x := ((60 * p + (fr - 1) : Nat) : Int)) (by omega) (by omega), Int.toNat_natCast, I_A' f4, I_F' i.2.2.1, show (2500 : Int32) = I 2500 from rfl, I_mul, I_add, show isK 93 5 = true from by decide, ck_t, ck_t]
  by_cases e : 0 ≤ c
  · rw [decide_eq_true e, br_tq, inb_at (k := 101) (n := 1440) rfl (by omega) (by omega) (by decide), ck_t, I_A' f5, I_add, I_add, inb_at (k := 93) (n := 60000) rfl (by omega) (by omega) (by decide), ck_t, I_tn (by omega) (by omega)]
    refine ok_some.mpr ⟨rfl, ?_⟩
    have := x9 (rn + (rh + c.toNat)) (by omega)
    rw [show ((p : Int) * 2500 + (rn : Int) + ((rh : Int) + c)).toNat = 2500 * p + (rn + (rh + c.toNat)) from by omega]
    exact this
  · rw [decide_eq_false e, br_fq, show (-2 : Int32) = I (-2) from rfl, I_sub, I_add, inb_at (k := 93) (n := 60000) rfl (by omega) (by omega) (by decide), ck_t, I_tn (by omega) (by omega)]
    refine ok_some.mpr ⟨rfl, ?_⟩
    have := x9 (rn + (-2 - c).toNat) (by omega)
    rw [show ((p : Int) * 2500 + (rn : Int) + (-2 - c)).toNat = 2500 * p + (rn + (-2 - c).toNat) from by omega]
    exact this
end
end
section
section
variable {Fv : Int64 → Int64 → Prop} {P : Int64 → Prop} {w w2 : MS} {PR N p n opM bnM bxM SN PN L : Nat} {ow kd pM pE : Nat → Nat}
def RDY (n : Nat) (ow kd : Nat → Nat) (P : Int64 → Prop) (pE : Nat → Nat) (q m : Nat) (w : MS) : Prop := ∀ k, k < m → A w 162 k = ((chi pE q k : Nat) : Int) ∧ GT n ow kd P (w.2.2.2 163 k)
def PSH (n : Nat) (ow kd : Nat → Nat) (P : Int64 → Prop) (pE : Nat → Nat) (q m many : Nat) (w w2 : MS) : Prop := FR [] [] [160, 162] [161, 163] w w2 ∧ (∀ k, k < many → A w2 160 k = A w 160 k ∧ w2.2.2.2 161 k = w.2.2.2 161 k) ∧ ∀ k, k < m → A w2 160 (many + (m - 1 - k)) = ((chi pE q k : Nat) : Int) ∧ GT n ow kd P (w2.2.2.2 161 (many + (m - 1 - k)))
theorem p266 {q m many : Nat} (hm : m ≤ 10) (hmany : many ≤ 2900) (hchi : ∀ k, k < m → chi pE q k < 5000) : ∀ (fu r : Nat) (w : MS), r ≤ m → r < fu → RDY n ow kd P pE q m w → (∀ k, r ≤ k → k < m → A w 160 (many + (m - 1 - k)) = ((chi pE q k : Nat) : Int) ∧ GT n ow kd P (w.2.2.2 161 (many + (m - 1 - k)))) → OK (fun w2 x => x = I ((many + m : Nat) : Int) ∧ PSH n ow kd P pE q m many w w2) ((gg_M_parts1 N fu).2.2 w (I many) (I m) (I ((r : Int) - 1))) := by
  intro fu
  induction fu with
  | zero => intro r w _ z; exact absurd z (Nat.not_lt_zero _)
  | succ fu ih =>
    intro r w hr hf rd done
    show OK _ (fb_M_parts1_266 N (gg_M_parts1 N fu) w (I many) (I m) (I ((r : Int) - 1)))
    unfold fb_M_parts1_266
    rw [lit0q, decL (by omega) (by omega) (by omega) (by omega)]
    cases r with
    | zero =>
      rw [decide_eq_true (by omega), br_tq, I_add]
      exact ok_some.mpr ⟨by congr 1, FR.rf, fun _ _ => ⟨rfl, rfl⟩, fun k hk => done k (Nat.zero_le _) hk⟩
    | succ r =>
      obtain ⟨r1, r2⟩ := rd r (by omega)
      have hc := hchi r (by omega)
      rw [decide_eq_false (by omega), br_fq, show ((r + 1 : Nat) : Int) - 1 = (r : Int) from by omega, inb_at (k := 162) (n := 10) rfl (by omega) (by omega) (by decide), ck_t, I_add, lit1q, I_sub, I_sub, inb_at (k := 160) (n := 3000) rfl (by omega) (by omega) (by decide), ck_t, lt_e, I_tn (by omega) (by omega), I_tn (by omega) (by omega), Int.toNat_natCast, show ((many : Int) + (m : Int) - 1 - (r : Int)).toNat = many + (m - 1 - r) from by omega, I_A' r1, wa_e, inb_at (k := 163) (n := 10) rfl (by omega) (by omega) (by decide), ck_t, inb_at (k := 161) (n := 3000) rfl (by omega) (by omega) (by decide), ck_t, lt_e, wj_e, I_neg, I_add, show (r : Int) + -1 = (r : Int) - 1 from by omega]
      generalize hz : wj (wa w 160 (many + (m - 1 - r)) ((chi pE q r : Nat) : Int)) 161 (many + (m - 1 - r)) ((wa w 160 (many + (m - 1 - r)) ((chi pE q r : Nat) : Int)).2.2.2 163 r) = z
      have fz : FR [] [] [160, 162] [161, 163] w z := by rw [← hz]; exact FR.wj (FR.wa FR.rf (by decide)) (by decide)
      have a160 : ∀ k, A z 160 k = if k = many + (m - 1 - r) then ((chi pE q r : Nat) : Int) else A w 160 k := fun k => by rw [← hz, A_wj, A_eq (by omega) (by omega)]
      have j161 : ∀ k, z.2.2.2 161 k = if k = many + (m - 1 - r) then w.2.2.2 163 r else w.2.2.2 161 k := fun k => by rw [← hz, J_wj, if_pos rfl]; rfl
      have a162 : ∀ k, A z 162 k = A w 162 k := fun k => by rw [← hz, A_wj, A_ne (by decide)]
      have j163 : ∀ k, z.2.2.2 163 k = w.2.2.2 163 k := fun k => by rw [← hz, J_wj, if_neg (by decide)]; rfl
      refine ok_mono (ih r z (by omega) (by omega) (fun k hk => by rw [a162, j163]; exact rd k hk) (fun k h1 h2 => ?_)) (fun v x hv => ⟨hv.1, FR.tr fz hv.2.1, fun k hk => ?_, hv.2.2.2⟩)
      · rw [a160, j161]
        by_cases e : k = r
        · subst e; rw [if_pos rfl, if_pos rfl]; exact ⟨rfl, r2⟩
        · rw [if_neg (by omega), if_neg (by omega)]; exact done k (by omega) h2
      · rw [(hv.2.2.1 k hk).1, (hv.2.2.1 k hk).2, a160, j161, if_neg (by omega), if_neg (by omega)]; exact ⟨rfl, rfl⟩
theorem p260 {q m many : Nat} (hm : m ≤ 10) (hmany : many ≤ 2900) (hchi : ∀ k, k < m → chi pE q k < 5000) {fu : Nat} (hf : 12 ≤ fu) (rd : RDY n ow kd P pE q m w) : OK (fun w2 x => x = I ((many + m : Nat) : Int) ∧ PSH n ow kd P pE q m many w w2) (fb_M_parts1_260 N (gg_M_parts1 N fu) w (I many) (I m)) := by
  unfold fb_M_parts1_260
  rw [lit1q, I_sub]
  exact p266 hm hmany hchi fu m w (Nat.le_refl _) (by omega) rd (fun k h1 h2 => by omega)
theorem RDY_step {q r : Nat} {x : Int64} {c : Nat} (hc : c = chi pE q r) (h5 : c < 5000) (rd : RDY n ow kd P pE q r w) (g : GT n ow kd P x) : RDY n ow kd P pE q (r + 1) (wj (wa w 162 r c) 163 r x) := by
  intro k hk
  rw [A_wj, A_eq (by omega) (by omega), J_wj, if_pos rfl]
  by_cases e : k = r
  · subst e; rw [if_pos rfl, if_pos rfl, hc]; exact ⟨rfl, g⟩
  · rw [if_neg e, if_neg e]; exact rd k (by omega)
theorem p59 {q m many : Nat} {x : Int64} (i0 : MEI Fv P PR w p n ow kd opM bnM bxM) (hm : m ≤ 8) (hmany : many ≤ 2900) (hchi : ∀ k, k < m → chi pE q k < 5000) (hnx : ∀ k, k + 1 < m → A w 37 (chi pE q k) = ((chi pE q (k + 1) : Nat) : Int)) (hlast : 0 < m → A w 37 (chi pE q (m - 1)) = -1) (hx : so x = 5) (gx : GT n ow kd P x) (hbl : blk (hp w p) x = 1 + m) : ∀ (fu r : Nat) (v : MS), r ≤ m → (m - r) + 14 < fu → FR [] [] [160, 162] [161, 163] w v → (∀ k, k < many → A v 160 k = A w 160 k ∧ v.2.2.2 161 k = w.2.2.2 161 k) → RDY n ow kd P pE q r v → OK (fun w2 y => y = I ((many + m : Nat) : Int) ∧ PSH n ow kd P pE q m many w w2) ((gg_M_parts1 N fu).1 v (I many) x (I r) (I (if r < m then ((chi pE q r : Nat) : Int) else -1))) := by
  have x4 := MEI_p i0
  have g := i0.2.2.2.2.2.2.1
  have x3 := i0.2.2.2.2.2.2.2.1
  have hxh : isH x := Or.inr (Or.inl hx)
  obtain ⟨bk, pt⟩ := HP_bk g hxh gx
  have bn := bk.2.2.2.1
  have vx : va x = (vn x : Int) := by have := bk.1; unfold vn; omega
  have pp : prt x = 1 := by unfold prt; rw [hx]; rfl
  intro fu
  induction fu with
  | zero => intro r v _ z; exact absurd z (Nat.not_lt_zero _)
  | succ fu ih =>
    intro r v hr hf fv hlow rd
    show OK _ (fb_M_parts1_59 N (gg_M_parts1 N fu) v (I many) x (I r) (I (if r < m then ((chi pE q r : Nat) : Int) else -1)))
    unfold fb_M_parts1_59
    by_cases e : r < m
    · have hc := hchi r e
      have hpv : hp v p = hp w p := by unfold hp; rw [fv.2.2.2 88 (by decide)]
      have me : F v 133 = p := by rw [FR.F fv (by decide)]; exact i0.2.2.1
      rw [if_pos e, litm1q, decE (by omega) (by omega) (by omega) (by omega), decide_eq_false (by omega), br_fq, inb_at (k := 162) (n := 10) rfl (by omega) (by omega) (by decide), ck_t, lt_e, I_tn (by omega) (by omega), Int.toNat_natCast, wa_e, valueOf_e, bnd_so, show (wa v 162 r ((chi pE q r : Nat) : Int)).1 133 = I p from I_F' me, vx, lit1q, I_add, I_add, show (vn x : Int) + 1 + (r : Int) = ((vn x + (1 + r) : Nat) : Int) from by omega, cell_e (by omega) (by omega), bnd_so, inb_at (k := 163) (n := 10) rfl (by omega) (by omega) (by decide), ck_t, lt_e, wj_e, inb_at (k := 37) (n := 5000) rfl (by omega) (by omega) (by decide), ck_t, lt_e, I_tn (by omega) (by omega), Int.toNat_natCast]
      have hcell : hp (wa v 162 r ((chi pE q r : Nat) : Int)) p = hp w p := hpv
      rw [hcell]
      have gc := pt (1 + r) (by omega) (by omega)
      generalize hz : wj (wa v 162 r ((chi pE q r : Nat) : Int)) 163 r (hp w p (vn x + (1 + r))) = z
      have fz : FR [] [] [160, 162] [161, 163] w z := by rw [← hz]; exact FR.wj (FR.wa fv (by decide)) (by decide)
      have a37 : A z 37 (chi pE q r) = (if r + 1 < m then ((chi pE q (r + 1) : Nat) : Int) else -1) := by
        rw [FR.A fz (by decide)]
        by_cases e2 : r + 1 < m
        · rw [if_pos e2]; exact hnx r e2
        · rw [if_neg e2]
          have := hlast (by omega)
          rw [show m - 1 = r from by omega] at this
          exact this
      rw [I_A' a37, I_add]
      refine ih (r + 1) z (by omega) (by omega) fz (fun k hk => ?_) ?_
      · rw [← hz, A_wj, A_ne (by decide), J_wj, if_neg (by decide), J_wa]; exact hlow k hk
      · rw [← hz]; exact RDY_step rfl hc rd gc
    · have er : r = m := by omega
      subst er
      rw [if_neg e, litm1q, decE (by omega) (by omega) (by omega) (by omega), decide_eq_true rfl, br_tq]
      exact ok_mono (p260 (by omega) hmany hchi (by omega) rd) (fun w2 y h => ⟨h.1, FR.tr fv h.2.1, fun k hk => ⟨(h.2.2.1 k hk).1.trans (hlow k hk).1, (h.2.2.1 k hk).2.trans (hlow k hk).2⟩, h.2.2.2⟩)
theorem p128 {q0 q m tl many : Nat} (i0 : MEI Fv P PR w p n ow kd opM bnM bxM) (hm : m ≤ 8) (hq0 : q0 < 5000) (h35 : A w 35 q0 = m) (htl : (A w 38 q0 = 0 ∧ tl = 0) ∨ (A w 38 q0 ≠ 0 ∧ tl = 1)) (hmany : many ≤ 2900) (hchi : ∀ k, k < m + tl → chi pE q k < 5000) (hnx : ∀ k, k + 1 < m + tl → A w 37 (chi pE q k) = ((chi pE q (k + 1) : Nat) : Int)) : ∀ (fu r : Nat) (v : MS) (x : Int64) (c : Int), r ≤ m → (m - r) + 14 < fu → FR [] [] [160, 162] [161, 163] w v → (∀ k, k < many → A v 160 k = A w 160 k ∧ v.2.2.2 161 k = w.2.2.2 161 k) → RDY n ow kd P pE q r v → GT n ow kd P x → (r < m + tl → c = ((chi pE q r : Nat) : Int)) → -2147483648 ≤ c ∧ c < 2147483648 → OK (fun w2 y => (y = I (-1) ∧ FR [] [] [160, 162] [161, 163] w w2) ∨ (y = I ((many + (m + tl) : Nat) : Int) ∧ PSH n ow kd P pE q (m + tl) many w w2)) ((gg_M_parts1 N fu).2.1 v (I q0) (I many) x (I r) (I c) (I r)) := by
  have x4 := MEI_p i0
  have g := i0.2.2.2.2.2.2.1
  have x3 := i0.2.2.2.2.2.2.2.1
  intro fu
  induction fu with
  | zero => intro r v x c _ z; exact absurd z (Nat.not_lt_zero _)
  | succ fu ih =>
    intro r v x c hr hf fv hlow rd gx hc hcr
    have rx := so_r x
    show OK _ (fb_M_parts1_128 N (gg_M_parts1 N fu) v (I q0) (I many) x (I r) (I c) (I r))
    unfold fb_M_parts1_128
    rw [inb_at (k := 35) (n := 5000) rfl (by omega) (by omega) (by decide), ck_t, I_tn (x := (q0 : Int)) (by omega) (by omega), Int.toNat_natCast, I_A' (show A v 35 q0 = m by rw [FR.A fv (by decide)]; exact h35), decI (by omega) (by omega) (by omega) (by omega), inb_at (k := 38) (n := 5000) rfl (by omega) (by omega) (by decide), ck_t, sortOf_e, bnd_so, show (6 : Int32) = I 6 from rfl, show (7 : Int32) = I 7 from rfl, lit0q, litm1q]
    have fail : OK (fun w2 y => (y = I (-1) ∧ FR [] [] [160, 162] [161, 163] w w2) ∨ (y = I ((many + (m + tl) : Nat) : Int) ∧ PSH n ow kd P pE q (m + tl) many w w2)) (some (v, I (-1))) := ok_some.mpr (Or.inl ⟨rfl, fv⟩)
    have push : ∀ v2 : MS, FR [] [] [160, 162] [161, 163] w v2 → (∀ k, k < many → A v2 160 k = A w 160 k ∧ v2.2.2.2 161 k = w.2.2.2 161 k) → RDY n ow kd P pE q (m + tl) v2 → OK (fun w2 y => (y = I (-1) ∧ FR [] [] [160, 162] [161, 163] w w2) ∨ (y = I ((many + (m + tl) : Nat) : Int) ∧ PSH n ow kd P pE q (m + tl) many w w2)) (fb_M_parts1_260 N (gg_M_parts1 N fu) v2 (I many) (I ((m + tl : Nat) : Int))) := fun v2 f2 h2 rd2 => ok_mono (p260 (by omega) hmany hchi (by omega) rd2) (fun w2 y h => Or.inr ⟨h.1, FR.tr f2 h.2.1, fun k hk => ⟨(h.2.2.1 k hk).1.trans (h2 k hk).1, (h.2.2.1 k hk).2.trans (h2 k hk).2⟩, h.2.2.2⟩)
    by_cases e : m ≤ r
    · have er : r = m := by omega
      subst er
      rw [decide_eq_true (by omega), br_tq]
      have h38 := A_r v 38 q0
      have e38 : A v 38 q0 = A w 38 q0 := FR.A fv (by decide)
      rw [I_A' e38, decE (by omega) (by omega) (by omega) (by omega)]
      rcases htl with ⟨t1, t2⟩ | ⟨t1, t2⟩
      · subst t2
        rw [decide_eq_true t1, br_tq]
        exact ok_br.mpr ⟨fun _ => push v fv hlow rd, fun _ => fail⟩
      · subst t2
        have hcc := hc (by omega)
        have hch := hchi r (by omega)
        rw [decide_eq_false t1, br_fq, inb_at (k := 162) (n := 10) rfl (by omega) (by omega) (by decide), ck_t, lt_e, I_tn (by omega) (by omega), Int.toNat_natCast, wa_e, inb_at (k := 163) (n := 10) rfl (by omega) (by omega) (by decide), ck_t, lt_e, wj_e, lit1q, I_add]
        refine push _ (FR.wj (FR.wa fv (by decide)) (by decide)) (fun k hk => ?_) ?_
        · rw [A_wj, A_ne (by decide), J_wj, if_neg (by decide), J_wa]; exact hlow k hk
        · rw [hcc]; exact RDY_step rfl hch rd gx
    · rw [decide_eq_false (by omega), br_fq, bnd_so, decE rx.1 rx.2 (by omega) (by omega)]
      by_cases e7 : so x = 7
      · have hx : isH x := Or.inr (Or.inr e7)
        obtain ⟨bk, pt⟩ := HP_bk g hx gx
        have bb : blk (hp w p) x = 2 := by unfold blk; rw [e7]; rfl
        have pp : prt x = 0 := by unfold prt; rw [e7]; rfl
        have bn := bk.2.2.2.1
        have vx : va x = (vn x : Int) := by have := bk.1; unfold vn; omega
        have hcc := hc (by omega)
        have hch := hchi r (by omega)
        have me : F v 133 = p := by rw [FR.F fv (by decide)]; exact i0.2.2.1
        have hpv : hp v p = hp w p := by unfold hp; rw [fv.2.2.2 88 (by decide)]
        rw [hcc, decide_eq_true e7, br_tq, inb_at (k := 162) (n := 10) rfl (by omega) (by omega) (by decide), ck_t, lt_e, I_tn (x := (r : Int)) (by omega) (by omega), Int.toNat_natCast, wa_e, valueOf_e, bnd_so, show (wa v 162 r ((chi pE q r : Nat) : Int)).1 133 = I p from I_F' me, vx, cell_e (by omega) (by omega), bnd_so, inb_at (k := 163) (n := 10) rfl (by omega) (by omega) (by decide), ck_t, lt_e, wj_e, valueOf_e, bnd_so]
        rw [show (wj (wa v 162 r ((chi pE q r : Nat) : Int)) 163 r (hp (wa v 162 r ((chi pE q r : Nat) : Int)) p (vn x))).1 133 = I p from I_F' me, vx, lit1q, I_add, show (vn x : Int) + 1 = ((vn x + 1 : Nat) : Int) from by omega, cell_e (by omega) (by omega), bnd_so, inb_at (k := 37) (n := 5000) rfl (by omega) (by omega) (by decide), ck_t, lt_e, I_tn (by omega) (by omega), Int.toNat_natCast, I_add]
        have hcell : hp (wa v 162 r ((chi pE q r : Nat) : Int)) p = hp w p := hpv
        rw [hcell]
        generalize hz : wj (wa v 162 r ((chi pE q r : Nat) : Int)) 163 r (hp w p (vn x)) = z
        have fz : FR [] [] [160, 162] [161, 163] w z := by rw [← hz]; exact FR.wj (FR.wa fv (by decide)) (by decide)
        have hpz : hp z p = hp w p := by unfold hp; rw [fz.2.2.2 88 (by decide)]
        rw [hpz, I_A (k := 37)]
        have h37 := A_r z 37 (chi pE q r)
        refine ih (r + 1) z (hp w p (vn x + 1)) (A z 37 (chi pE q r)) (by omega) (by omega) fz (fun k hk => ?_) ?_ (pt 1 (by omega) (by omega)) (fun h => ?_) h37
        · rw [← hz, A_wj, A_ne (by decide), J_wj, if_neg (by decide), J_wa]; exact hlow k hk
        · rw [← hz]; exact RDY_step rfl hch rd (by have := pt 0 (by omega) (by omega); exact this)
        · rw [FR.A fz (by decide)]; exact hnx r h
      · rw [decide_eq_false e7, br_fq]
        exact fail
end
end
section
section
variable {Fv : Int64 → Int64 → Prop} {P : Int64 → Prop} {w w2 : MS} {PR N p n opM bnM bxM SN PN L : Nat} {ow kd pM pE : Nat → Nat}
theorem chi_up {e q m : Nat} (h1 : ∀ k, k < m → chi pE q k < e) (hq : ∀ k, q ≤ k → k < e → k < pE k) : ∀ k, k ≤ m → q + k ≤ chi pE q k := by
  intro k
  induction k with
  | zero => intro _; exact Nat.le_refl _
  | succ k ih =>
    intro hk
    have a := ih (by omega)
    have := hq _ (by omega) (h1 k (by omega))
    show q + (k + 1) ≤ pE (chi pE q k)
    omega
theorem chi_gap {e q m : Nat} (h0 : chi pE q m = e) (h1 : ∀ k, k < m → chi pE q k < e) (hq : ∀ k, q ≤ k → k < e → k < pE k) : ∀ d k, k + d = m → chi pE q k + d ≤ e := by
  intro d
  induction d with
  | zero => intro k hk; rw [show k = m from hk, h0]; exact Nat.le_refl _
  | succ d ih =>
    intro k hk
    have a := ih (k + 1) (by omega)
    have b := chi_up h1 hq k (by omega)
    have := hq _ (by omega) (h1 k (by omega))
    have e2 : chi pE q (k + 1) = pE (chi pE q k) := rfl
    omega
theorem parts1_ok {q many : Nat} {x : Int64} (i : MEI Fv P PR w p n ow kd opM bnM bxM) (hw : PW w pM pE PN SN L q) (hPN : PN ≤ 2900) (hk : A w 33 q = 5 ∨ A w 33 q = 6) (hin : ∀ k, q < k → k < pE q → k < pE k) (hmany : many ≤ 2900) (gx : GT n ow kd P x) (hN : 100 ≤ N) :
    OK (fun w2 y => (y = I (-1) ∧ FR [] [] [160, 162] [161, 163] w w2) ∨ ∃ m, m ≤ 9 ∧ y = I ((many + m : Nat) : Int) ∧ PSH n ow kd P pE (q + 1) m many w w2 ∧ chi pE (q + 1) m = pE q ∧ ∀ k, k < m → chi pE (q + 1) k < pE q) (fm_M_parts1 N w (I q) x (I many)) := by
  have x4 := MEI_p i
  have x3 := i.2.2.2.2.2.2.2.1
  have g := i.2.2.2.2.2.2.1
  have rx := so_r x
  obtain ⟨w1, w2', w3, w4, -, -, -, -, w5, w6⟩ := hw
  unfold fm_M_parts1 fb_M_parts1_0 fb_M_parts1_49
  rw [inb_at (k := 33) (n := 5000) rfl (by omega) (by omega) (by decide), ck_t, I_tn (by omega) (by omega), Int.toNat_natCast, I_A (k := 33), show (5 : Int32) = I 5 from rfl, decE (by omega) (by omega) (by omega) (by omega), litm1q]
  by_cases e5 : A w 33 q = 5
  · obtain ⟨-, m, h35, hm, ⟨c0, c1, c2⟩, c3⟩ := w5 e5
    rw [decide_eq_true e5, br_tq, sortOf_e, bnd_so, decE rx.1 rx.2 (by omega) (by omega)]
    by_cases hx : so x = 5
    · have hxh : isH x := Or.inr (Or.inl hx)
      obtain ⟨bk, -⟩ := HP_bk g hxh gx
      have bp := blk_pos (h := hp w p) hxh
      have bn := bk.2.2.2.1
      have vx : va x = (vn x : Int) := by have := bk.1; unfold vn; omega
      rw [decide_eq_true hx, br_tq, valueOf_e, bnd_so, I_F' i.2.2.1, vx, cell_e (by omega) (by omega), bnd_so, inb_at (k := 35) (n := 5000) rfl (by omega) (by omega) (by decide), ck_t, inb_at (k := 36) (n := 5000) rfl (by omega) (by omega) (by decide), ck_t]
      refine ok_br.mpr ⟨fun h => ?_, fun _ => ok_some.mpr (Or.inl ⟨rfl, FR.rf⟩)⟩
      have hcell : hp w p (vn x) = (w.2.2.1 35 q).toInt64 := by
        have := of_decide_eq_true h
        unfold lg_cmp at this
        by_cases z1 : hp w p (vn x) > (w.2.2.1 35 q).toInt64
        · rw [if_pos z1] at this; exact absurd this (by decide)
        · rw [if_neg z1] at this
          by_cases z2 : hp w p (vn x) = (w.2.2.1 35 q).toInt64
          · exact z2
          · rw [if_neg z2] at this; exact absurd this (by decide)
      have hbl : blk (hp w p) x = 1 + m := by
        unfold blk
        rw [hx]
        simp
        rw [hcell, I_A' h35]
        unfold vn
        rw [va_nat (by omega)]
        omega
      rw [lt_e, lit0q]
      have hc0 : A w 36 q = (if 0 < m then ((chi pE (q + 1) 0 : Nat) : Int) else -1) := by
        rcases c3 with ⟨z1, z2⟩ | ⟨z1, z2, -⟩
        · rw [if_neg (by omega)]; exact z2
        · rw [if_pos z1]; exact z2
      rw [I_A' hc0]
      refine ok_mono (p59 (N := N) (pE := pE) (q := q + 1) i hm hmany (fun k hk2 => by have := c1 k hk2; omega) c2 (fun hz => by
        rcases c3 with ⟨z1, -⟩ | ⟨-, -, z3⟩
        · omega
        · exact z3) hx gx hbl N 0 w (Nat.zero_le _) (by omega) FR.rf (fun _ _ => ⟨rfl, rfl⟩) (fun k hk2 => absurd hk2 (Nat.not_lt_zero _))) (fun v y h => Or.inr ⟨m, by omega, h.1, h.2, c0, c1⟩)
    · rw [decide_eq_false hx, br_fq]
      exact ok_some.mpr (Or.inl ⟨rfl, FR.rf⟩)
  · have e6 : A w 33 q = 6 := by rcases hk with z | z; exact absurd z e5; exact z
    obtain ⟨-, m, h35, hm, ht, ⟨c0, c1, c2⟩, c3⟩ := w6 e6
    rw [decide_eq_false e5, br_fq, inb_at (k := 36) (n := 5000) rfl (by omega) (by omega) (by decide), ck_t, I_A (k := 36), lit0q]
    have h36 := A_r w 36 q
    by_cases e38 : A w 38 q = 0
    · rw [if_pos e38] at c0 c1 c2
      refine ok_mono (p128 (N := N) (pE := pE) (q0 := q) (q := q + 1) (m := m) (tl := 0) i hm (by omega) h35 (Or.inl ⟨e38, rfl⟩) hmany (fun k hk2 => by have := c1 k hk2; omega) c2 N 0 w x (A w 36 q) (Nat.zero_le _) (by omega) FR.rf (fun _ _ => ⟨rfl, rfl⟩) (fun k hk2 => absurd hk2 (Nat.not_lt_zero _)) gx (fun hz => by
        rcases c3 with z | z
        · omega
        · exact z) h36) (fun v y h => ?_)
      rcases h with h | h
      · exact Or.inl h
      · exact Or.inr ⟨m, by omega, h.1, h.2, c0, c1⟩
    · rw [if_neg e38] at c0 c1 c2
      refine ok_mono (p128 (N := N) (pE := pE) (q0 := q) (q := q + 1) (m := m) (tl := 1) i hm (by omega) h35 (Or.inr ⟨e38, rfl⟩) hmany (fun k hk2 => by have := c1 k hk2; omega) c2 N 0 w x (A w 36 q) (Nat.zero_le _) (by omega) FR.rf (fun _ _ => ⟨rfl, rfl⟩) (fun k hk2 => absurd hk2 (Nat.not_lt_zero _)) gx (fun hz => by
        rcases c3 with z | z
        · rcases ht with t | t
          · exact absurd t e38
          · omega
        · exact z) h36) (fun v y h => ?_)
      rcases h with h | h
      · exact Or.inl h
      · exact Or.inr ⟨m + 1, by omega, h.1, h.2, c0, c1⟩
def TRY (w : MS) (pE : Nat → Nat) (n : Nat) (ow kd : Nat → Nat) (P : Int64 → Prop) (p0 e many c : Nat) : Prop := (many = 0 → c = e) ∧ (0 < many → A w 160 (many - 1) = ((c : Nat) : Int)) ∧ ∀ i, i < many → ∃ q : Nat, A w 160 i = q ∧ p0 ≤ q ∧ q < e ∧ (i = 0 → pE q = e) ∧ (0 < i → A w 160 (i - 1) = ((pE q : Nat) : Int)) ∧ i + 1 + q ≤ e ∧ GT n ow kd P (w.2.2.2 161 i)
def FQ (p : Nat) (w v : MS) : Prop := FR [] [] [94, 160, 162] [93, 141, 161, 163] w v ∧ ∀ z, z ≠ p → A v 94 z = A w 94 z
theorem fits_loop {p0 e fr rn rh : Nat} (hPN : PN ≤ 2900) (heP : e ≤ PN) (hpw : ∀ q, p0 ≤ q → q < e → PW w pM pE PN SN rh q) (hF : FVH Fv) (hat : ATM w) (hP : ∀ t, P t → PA w t) (hS : STR w SN) (hfr : FRA w p fr rn rh) (hcap : ∀ q, p0 ≤ q → q ≤ e → rn + rh + pM q ≤ 2450) (hN : 6000 ≤ N) : ∀ (fu many c b : Nat) (v : MS), FQ p w v → MEI Fv P PR v p n ow kd opM b bxM → b = rn + rh + pM c → p0 ≤ c → c ≤ e → TRY v pE n ow kd P p0 e many c → e - c < fu →
    OK (fun w2 r => FQ p w w2 ∧ ((r = I 1 ∧ MEI Fv P PR w2 p n ow kd opM (rn + rh + pM e) bxM) ∨ (r = I 0 ∧ ∃ b2, MEI Fv P PR w2 p n ow kd opM b2 bxM ∧ ∃ c2, p0 ≤ c2 ∧ c2 ≤ e ∧ b2 = rn + rh + pM c2))) (gg_M_fits N fu v (I many)) := by
  intro fu
  induction fu with
  | zero => intro many c b v _ _ _ _ _ _ z; exact absurd z (Nat.not_lt_zero _)
  | succ fu ih =>
    intro many c b v fv iv hb hc1 hc2 tr hf
    have x4 := MEI_p iv
    obtain ⟨t1, t2, t3⟩ := id tr
    show OK _ (fb_M_fits_17 N (gg_M_fits N fu) v (I many))
    unfold fb_M_fits_17 fb_M_fits_198
    have hmany : many ≤ 2900 := by
      cases many with
      | zero => omega
      | succ many => obtain ⟨q, -, -, -, -, -, z, -⟩ := t3 many (by omega); omega
    rw [lit0q, decI (by omega) (by omega) (by omega) (by omega)]
    cases many with
    | zero =>
      rw [decide_eq_true (by omega), br_tq]
      have ec := t1 rfl
      subst ec
      subst hb
      exact ok_ck.mpr ⟨rfl, ok_some.mpr ⟨fv, Or.inl ⟨rfl, iv⟩⟩⟩
    | succ many =>
      obtain ⟨q, q1, q2, q3, q4, q5, q6, q7⟩ := t3 many (by omega)
      have eqc : q = c := by have := t2 (by omega); rw [show many + 1 - 1 = many from by omega, q1] at this; omega
      subst eqc
      rw [decide_eq_false (by omega), br_fq, litm1q, I_add, show ((many + 1 : Nat) : Int) + -1 = (many : Int) from by omega, inb_at (k := 160) (n := 3000) rfl (by omega) (by omega) (by decide), ck_t, lt_e, inb_at (k := 161) (n := 3000) rfl (by omega) (by omega) (by decide), ck_t, lt_e, I_tn (x := (many : Int)) (by omega) (by omega), Int.toNat_natCast, I_A' q1, inb_at (k := 33) (n := 5000) rfl (by omega) (by omega) (by decide), ck_t, I_tn (x := (q : Int)) (by omega) (by omega), Int.toNat_natCast]
      obtain ⟨w1, w2', w3, w4, k03, k1, k2, k4, -⟩ := id (hpw q q2 q3)
      have e33 : A v 33 q = A w 33 q := FR.A fv.1 (by decide)
      have e35 : A v 35 q = A w 35 q := FR.A fv.1 (by decide)
      have hr35 := A_r w 35 q
      rw [I_A' e33, lit1q, show (2 : Int32) = I 2 from rfl, show (3 : Int32) = I 3 from rfl, show (4 : Int32) = I 4 from rfl, decE (by omega) (by omega) (by omega) (by omega), decE (by omega) (by omega) (by omega) (by omega), decE (by omega) (by omega) (by omega) (by omega), decE (by omega) (by omega) (by omega) (by omega), decI (by omega) (by omega) (by omega) (by omega)]
      generalize hx : v.2.2.2 161 many = x at q7
      have no : ∀ v2 : MS, FQ p w v2 → MEI Fv P PR v2 p n ow kd opM b bxM → OK (fun w2 r => FQ p w w2 ∧ ((r = I 1 ∧ MEI Fv P PR w2 p n ow kd opM (rn + rh + pM e) bxM) ∨ (r = I 0 ∧ ∃ b2, MEI Fv P PR w2 p n ow kd opM b2 bxM ∧ ∃ c2, p0 ≤ c2 ∧ c2 ≤ e ∧ b2 = rn + rh + pM c2))) (ck (isb 0) (some (v2, I 0))) := fun v2 f2 i2 => ok_ck.mpr ⟨rfl, ok_some.mpr ⟨f2, Or.inr ⟨rfl, b, i2, q, q2, hc2, hb⟩⟩⟩
      have leaf : ∀ (v2 : MS) (b2 : Nat), pE q = q + 1 → FQ p w v2 → (∀ i, A v2 160 i = A v 160 i) → (∀ i, v2.2.2.2 161 i = v.2.2.2 161 i) → MEI Fv P PR v2 p n ow kd opM b2 bxM → b2 = rn + rh + pM (q + 1) → OK (fun w2 r => FQ p w w2 ∧ ((r = I 1 ∧ MEI Fv P PR w2 p n ow kd opM (rn + rh + pM e) bxM) ∨ (r = I 0 ∧ ∃ b2, MEI Fv P PR w2 p n ow kd opM b2 bxM ∧ ∃ c2, p0 ≤ c2 ∧ c2 ≤ e ∧ b2 = rn + rh + pM c2))) (gg_M_fits N fu v2 (I many)) := fun v2 b2 hl f2 a1 a2 i2 hb2 => by
        refine ih many (q + 1) b2 v2 f2 i2 hb2 (by omega) (by omega) ⟨fun z => ?_, fun z => ?_, fun j hj => ?_⟩ (by omega)
        · have := q4 z; omega
        · rw [a1]; have := q5 (by omega); rw [this, hl]
        · rw [a1, a1, a2]; exact t3 j (by omega)
      by_cases e1 : A w 33 q = 1
      · obtain ⟨m1, m2⟩ := k1 e1
        obtain ⟨-, -, i3, -, -, ⟨y1, y2, y3, y4, y5, y6, y7, y8, y9, y10, y11⟩⟩ := id iv
        have cap := hcap q q2 hc2
        rw [decide_eq_true e1, br_tq, I_F' i3, inb_at (k := 94) (n := 24) rfl (by omega) (by omega) (by decide), ck_t, I_tn (x := (p : Int)) (by omega) (by omega), Int.toNat_natCast, I_A' y6.1, show (2500 : Int32) = I 2500 from rfl, I_mul, I_add, inb_at (k := 93) (n := 60000) rfl (by omega) (by omega) (by decide), ck_t, lt_e, I_tn (by omega) (by omega), show ((p : Int) * 2500 + (b : Int)).toNat = 2500 * p + b from by omega, wj_e, show (wj v 93 (2500 * p + b) x).1 133 = I p from I_F' i3, inb_at (k := 94) (n := 24) rfl (by omega) (by omega) (by decide), ck_t, ck_t, lt_e, I_tn (x := (p : Int)) (by omega) (by omega), Int.toNat_natCast, show (wj v 93 (2500 * p + b) x).2.2.1 94 p = I b from I_A' y6.1, I_add, wa_e]
        generalize hz : wa (wj v 93 (2500 * p + b) x) 94 p ((b : Int) + 1) = z
        have fz : FR [] [] [94] [93] v z := by rw [← hz]; exact FR.wa (FR.wj FR.rf (by decide)) (by decide)
        have a94 : ∀ i, A z 94 i = if i = p then (b : Int) + 1 else A v 94 i := fun i => by rw [← hz, A_eq (by omega) (by omega)]; rfl
        have j93 : ∀ i, z.2.2.2 93 i = if i = 2500 * p + b then x else v.2.2.2 93 i := fun i => by rw [← hz, J_wa, J_wj, if_pos rfl]
        have hpz : hp z p = hp v p := by unfold hp; rw [fz.2.2.2 88 (by decide)]
        have z140 : F z 140 = -1 := by rw [FR.F fz (by decide)]; exact iv.1.2.2.2.1
        have iz : MEI Fv P PR z p n ow kd opM (b + 1) bxM := MEI_upd iv (FR.mo fz (by decide) (by decide) (by decide) (by decide)) z140 (fun q _ => FR.A fz (by decide)) (fun q _ => FR.A fz (by decide)) (fun q hq => by rw [a94, if_neg hq]) (fun q _ => FR.A fz (by decide)) (fun i _ => by rw [fz.2.2.2 88 (by decide)]) (fun i _ => by rw [fz.2.2.2 91 (by decide)]) (fun i hi => by rw [j93, if_neg (by omega)]) (fun i _ => by rw [fz.2.2.2 107 (by decide)]) (by rw [FR.A fz (by decide)]; exact iv.2.2.2.2.1) ⟨rfl, by rw [hpz]; exact y2, y3, y4, by rw [FR.A fz (by decide)]; exact y5, ⟨by rw [a94, if_pos rfl]; omega, by omega⟩, by rw [FR.A fz (by decide)]; exact y7, fun i hi => by rw [fz.2.2.2 91 (by decide)]; exact y8 i hi, fun i hi => by
          rw [j93]
          by_cases e : i = b
          · subst e; rw [if_pos rfl]; exact q7
          · rw [if_neg (by omega)]; exact y9 i (by omega), fun i hi => by rw [fz.2.2.2 107 (by decide)]; exact y10 i hi, fun e => by omega⟩
        exact leaf z (b + 1) m2 ⟨FR.tr fv.1 (FR.mo fz (by decide) (by decide) (by decide) (by decide)), fun y hy => by rw [a94, if_neg hy]; exact fv.2 y hy⟩ (fun i => FR.A fz (by decide)) (fun i => by rw [fz.2.2.2 161 (by decide)]) iz (by omega)
      rw [decide_eq_false e1, br_fq]
      by_cases e2 : A w 33 q = 2
      · obtain ⟨m1, m2, m3⟩ := k2 e2
        have hfv : FRA v p fr rn rh := by
          obtain ⟨f1, f2, f3, f4, f5⟩ := hfr
          exact ⟨by rw [FR.A fv.1 (by decide)]; exact f1, f2, f3, by rw [FR.A fv.1 (by decide)]; exact f4, by rw [FR.A fv.1 (by decide)]; exact f5⟩
        have cap := hcap q q2 hc2
        rw [decide_eq_true e2, br_tq, inb_at (k := 35) (n := 5000) rfl (by omega) (by omega) (by decide), ck_t, I_A' e35]
        refine ok_bnd.mpr (ok_mono (nameAt_ok (N := N) iv hfv hb m3 (by omega)) (fun v1 r1 h1 => ?_))
        obtain ⟨z1, z2⟩ := h1
        subst z1
        obtain ⟨-, -, i3, -, -, ⟨y1, y2, y3, -⟩⟩ := id iv
        refine ok_bnd.mpr (ok_mono (order_ok (N := N) (p := p) (n := n) (ow := ow) (kd := kd) y3 x4 hF (ATM_fr hat fv.1 (by decide) (by decide)) (PA_fr hP fv.1 (by decide)) i3 y2 z2 q7 (by omega)) (fun v2 r2 h2 => ?_))
        have i2 : MEI Fv P PR v2 p n ow kd opM b bxM := MEI_fr iv h2 (by decide) (by decide) (by decide) (by decide) (by decide) (by decide) (by decide) (by decide) (by decide) (by decide) (by decide) (by decide) (by decide) (by decide) (by decide) (by decide) (by decide) (by decide)
        have f2 : FQ p w _ := ⟨FR.tr fv.1 (FR.mo h2 (is2 := []) (ls2 := []) (as2 := [94, 160, 162]) (js2 := [93, 141, 161, 163]) (by decide) (by decide) (by decide) (by decide)), fun y hy => by rw [FR.A h2 (by decide)]; exact fv.2 y hy⟩
        exact ok_br.mpr ⟨fun _ => leaf v2 b m2 f2 (fun i => FR.A h2 (by decide)) (fun i => by rw [h2.2.2.2 161 (by decide)]) i2 (by omega), fun _ => no v2 f2 i2⟩
      rw [decide_eq_false e2, br_fq]
      by_cases e3 : A w 33 q = 3
      · obtain ⟨m1, m2⟩ := k03 (Or.inr e3)
        rw [decide_eq_true e3, br_tq, inb_at (k := 34) (n := 5000) rfl (by omega) (by omega) (by decide), ck_t]
        exact ok_br.mpr ⟨fun _ => leaf v b m2 fv (fun _ => rfl) (fun _ => rfl) iv (by omega), fun _ => no v fv iv⟩
      rw [decide_eq_false e3, br_fq]
      by_cases e4 : A w 33 q = 4
      · obtain ⟨m1, m2, m3, m4⟩ := k4 e4
        have hSv : STR v SN := ⟨hS.1, fun s hs => by rw [FR.A fv.1 (by decide), FR.A fv.1 (by decide)]; exact hS.2 s hs⟩
        rw [decide_eq_true e4, br_tq, inb_at (k := 35) (n := 5000) rfl (by omega) (by omega) (by decide), ck_t, I_A' e35, show A w 35 q = (((A w 35 q).toNat : Nat) : Int) from by omega]
        refine ok_bnd.mpr (ok_mono (isString_ok (N := N) iv hSv (by omega) q7 (by omega)) (fun v1 r1 h1 => ?_))
        obtain ⟨z1, -⟩ := h1
        subst z1
        exact ok_br.mpr ⟨fun _ => no v1 fv iv, fun _ => leaf v1 b m2 fv (fun _ => rfl) (fun _ => rfl) iv (by omega)⟩
      rw [decide_eq_false e4, br_fq]
      by_cases e0 : A w 33 q ≤ 4
      · have e00 : A w 33 q = 0 := by
          clear k03 k1 k2 k4
          omega
        obtain ⟨m1, m2⟩ := k03 (Or.inl e00)
        rw [decide_eq_true e0, br_tq]
        exact leaf v b m2 fv (fun _ => rfl) (fun _ => rfl) iv (by omega)
      rw [decide_eq_false e0, br_fq]
      have e56 : A w 33 q = 5 ∨ A w 33 q = 6 := by
        clear k03 k1 k2 k4
        omega
      have mq : pM (q + 1) = pM q := by
        rcases e56 with z | z
        · exact ((hpw q q2 q3).2.2.2.2.2.2.2.2.1 z).1
        · exact ((hpw q q2 q3).2.2.2.2.2.2.2.2.2 z).1
      have pEe : pE q ≤ e := by
        cases many with
        | zero => have := q4 rfl; omega
        | succ k =>
          obtain ⟨q', r1, r2, r3, -⟩ := t3 k (by omega)
          have := q5 (by omega)
          rw [show k + 1 - 1 = k from by omega, r1] at this
          omega
      have pwv : PW v pM pE PN SN rh q := by
        obtain ⟨a1, a2, a3, a4, b03, b1, b2, b4, b5, b6⟩ := hpw q q2 q3
        have e36 : A v 36 q = A w 36 q := FR.A fv.1 (by decide)
        have e38 : A v 38 q = A w 38 q := FR.A fv.1 (by decide)
        have e37 : ∀ k, A v 37 k = A w 37 k := fun k => FR.A fv.1 (by decide)
        unfold PW CHN
        rw [e33, e35, e36, e38]
        simp only [e37]
        exact ⟨a1, a2, a3, a4, b03, b1, b2, b4, b5, b6⟩
      have hin : ∀ k, q < k → k < pE q → k < pE k := fun k h1 h2 => (hpw k (by omega) (by omega)).1
      refine ok_bnd.mpr (ok_mono (parts1_ok (N := N) (many := many) iv pwv hPN (by rw [e33]; exact e56) hin (by omega) q7 (by omega)) (fun v1 r1 h1 => ?_))
      rcases h1 with ⟨z1, z2⟩ | ⟨m, z1, z2, ⟨z3, z4, z5⟩, z6, z7⟩
      · subst z1
        have f2 : FQ p w _ := ⟨FR.tr fv.1 (FR.mo z2 (is2 := []) (ls2 := []) (as2 := [94, 160, 162]) (js2 := [93, 141, 161, 163]) (by decide) (by decide) (by decide) (by decide)), fun y hy => by rw [FR.A z2 (by decide)]; exact fv.2 y hy⟩
        have i2 : MEI Fv P PR v1 p n ow kd opM b bxM := MEI_fr iv z2 (by decide) (by decide) (by decide) (by decide) (by decide) (by decide) (by decide) (by decide) (by decide) (by decide) (by decide) (by decide) (by decide) (by decide) (by decide) (by decide) (by decide) (by decide)
        rw [decE (by omega) (by omega) (by omega) (by omega), decide_eq_true rfl, br_tq]
        exact no v1 f2 i2
      · subst z2
        have f2 : FQ p w _ := ⟨FR.tr fv.1 (FR.mo z3 (is2 := []) (ls2 := []) (as2 := [94, 160, 162]) (js2 := [93, 141, 161, 163]) (by decide) (by decide) (by decide) (by decide)), fun y hy => by rw [FR.A z3 (by decide)]; exact fv.2 y hy⟩
        have i2 : MEI Fv P PR v1 p n ow kd opM b bxM := MEI_fr iv z3 (by decide) (by decide) (by decide) (by decide) (by decide) (by decide) (by decide) (by decide) (by decide) (by decide) (by decide) (by decide) (by decide) (by decide) (by decide) (by decide) (by decide) (by decide)
        rw [decE (by omega) (by omega) (by omega) (by omega), decide_eq_false (by omega), br_fq]
        have hin2 : ∀ k, q + 1 ≤ k → k < pE q → k < pE k := fun k h1 h2 => hin k (by omega) h2
        refine ih (many + m) (q + 1) b v1 f2 i2 (by omega) (by omega) (by omega) ⟨fun hz => ?_, fun hz => ?_, fun j hj => ?_⟩ (by omega)
        · have m0 : m = 0 := by omega
          have n0 : many = 0 := by omega
          subst m0
          have := q4 n0
          have z6' : q + 1 = pE q := z6
          omega
        · cases m with
          | zero =>
            have z6' : q + 1 = pE q := z6
            rw [show many + 0 - 1 = many - 1 from by omega, (z4 (many - 1) (by omega)).1, q5 (by omega), z6']
          | succ m =>
            have := (z5 0 (by omega)).1
            rw [show many + (m + 1 - 1 - 0) = many + (m + 1) - 1 from by omega] at this
            exact this
        · by_cases hjm : j < many
          · obtain ⟨q', r1, r2, r3, r4, r5, r6, r7⟩ := t3 j (by omega)
            obtain ⟨l1, l2⟩ := z4 j hjm
            refine ⟨q', by rw [l1]; exact r1, r2, r3, r4, fun h => ?_, r6, by rw [l2]; exact r7⟩
            rw [(z4 (j - 1) (by omega)).1]; exact r5 h
          · obtain ⟨k, hk, ej⟩ : ∃ k, k < m ∧ j = many + (m - 1 - k) := ⟨m - 1 - (j - many), by omega, by omega⟩
            obtain ⟨s1, s2⟩ := z5 k hk
            have up := chi_up z7 hin2 k (by omega)
            have lo := z7 k hk
            have gap := chi_gap z6 z7 hin2 (m - k) k (by omega)
            rw [ej]
            refine ⟨chi pE (q + 1) k, s1, by omega, by omega, fun hz => ?_, fun hz => ?_, ?_, s2⟩
            · have n0 : many = 0 := by omega
              have k1' : k + 1 = m := by omega
              have : pE (chi pE (q + 1) k) = chi pE (q + 1) m := by rw [← k1']; rfl
              rw [this, z6]; exact q4 n0
            · by_cases e9 : k + 1 < m
              · have := (z5 (k + 1) e9).1
                rw [show many + (m - 1 - k) - 1 = many + (m - 1 - (k + 1)) from by omega, this]; rfl
              · have k1' : k + 1 = m := by omega
                have hpe : pE (chi pE (q + 1) k) = pE q := by
                  have : pE (chi pE (q + 1) k) = chi pE (q + 1) m := by rw [← k1']; rfl
                  rw [this, z6]
                rw [hpe, show many + (m - 1 - k) - 1 = many - 1 from by omega, (z4 (many - 1) (by omega)).1]
                exact q5 (by omega)
            · cases many with
              | zero => have := q4 rfl; omega
              | succ k' =>
                obtain ⟨q', r1, r2, r3, -, -, r6, -⟩ := t3 k' (by omega)
                have := q5 (by omega)
                rw [show k' + 1 - 1 = k' from by omega, r1] at this
                omega
theorem fits_ok {q e fr rn rh : Nat} {x : Int64} (i : MEI Fv P PR w p n ow kd opM bnM bxM) (hPN : PN ≤ 2900) (heP : e ≤ PN) (hpe : pE q = e) (hqe : q < e) (hpw : ∀ k, q ≤ k → k < e → PW w pM pE PN SN rh k) (hF : FVH Fv) (hat : ATM w) (hP : ∀ t, P t → PA w t) (hS : STR w SN) (hfr : FRA w p fr rn rh) (hcap : ∀ k, q ≤ k → k ≤ e → rn + rh + pM k ≤ 2450) (hb : bnM = rn + rh + pM q) (gx : GT n ow kd P x) (hN : 6000 ≤ N) :
    OK (fun w2 r => FQ p w w2 ∧ ((r = I 1 ∧ MEI Fv P PR w2 p n ow kd opM (rn + rh + pM e) bxM) ∨ (r = I 0 ∧ ∃ b2, MEI Fv P PR w2 p n ow kd opM b2 bxM ∧ ∃ c2, q ≤ c2 ∧ c2 ≤ e ∧ b2 = rn + rh + pM c2))) (fm_M_fits N w (I q) x) := by
  unfold fm_M_fits fb_M_fits_0
  rw [lit0q, lit1q, inb_at (k := 160) (n := 3000) rfl (by omega) (by omega) (by decide), ck_t, lt_e, I_tn (by omega) (by omega), wa_e, inb_at (k := 161) (n := 3000) rfl (by omega) (by omega) (by decide), ck_t, lt_e, wj_e]
  have fz : FQ p w (wj (wa w 160 (Int.toNat 0) q) 161 (Int.toNat 0) x) := ⟨FR.wj (FR.wa FR.rf (by decide)) (by decide), fun y _ => by rw [A_wj, A_ne (by omega)]⟩
  have fz2 : FR [] [] [160] [161] w (wj (wa w 160 (Int.toNat 0) q) 161 (Int.toNat 0) x) := FR.wj (FR.wa FR.rf (by decide)) (by decide)
  have iz : MEI Fv P PR (wj (wa w 160 (Int.toNat 0) q) 161 (Int.toNat 0) x) p n ow kd opM bnM bxM := MEI_fr i fz2 (by decide) (by decide) (by decide) (by decide) (by decide) (by decide) (by decide) (by decide) (by decide) (by decide) (by decide) (by decide) (by decide) (by decide) (by decide) (by decide) (by decide) (by decide)
  have a0 : A (wj (wa w 160 (Int.toNat 0) q) 161 (Int.toNat 0) x) 160 0 = ((q : Nat) : Int) := by rw [A_wj, A_eq (by omega) (by omega)]; rfl
  refine fits_loop hPN heP hpw hF hat hP hS hfr hcap hN N 1 q bnM _ fz iz hb (Nat.le_refl _) (by omega) ⟨fun z => by omega, fun _ => a0, fun j hj => ?_⟩ (by omega)
  have e0 : j = 0 := by omega
  subst e0
  exact ⟨q, a0, Nat.le_refl _, hqe, fun _ => hpe, fun z => by omega, by omega, by rw [J_wj, if_pos rfl]; exact gx⟩
end
end
section
abbrev TY : Type := Nat → Nat → Nat
def tH (T : TY) (n : Nat) : Nat := T 0 n
def tM (T : TY) (n : Nat) : Nat := T 1 n
def tL (T : TY) (n : Nat) : Nat := T 2 n
def tK (T : TY) (n : Nat) : Nat := T 3 n
def tG (T : TY) (n : Nat) : Nat := T 4 n
def tB (T : TY) (n : Nat) : Nat := T 5 n
def tD (T : TY) (n : Nat) : Nat := T 6 n
def tC (T : TY) (n : Nat) : Nat := T 7 n
def tR (T : TY) (n : Nat) : Nat := T 8 n
abbrev CY : Type := Nat → Nat → Nat
def cH (C : CY) (c : Nat) : Nat := C 0 c
def cB (C : CY) (c : Nat) : Nat := C 1 c
def cM (C : CY) (c : Nat) : Nat := C 2 c
def cN (C : CY) (c : Nat) : Nat := C 3 c
def cL (C : CY) (c : Nat) : Nat := C 4 c
def cK (C : CY) (c : Nat) : Nat := C 5 c
def cC (C : CY) (c : Nat) : Nat := C 6 c
def cR (C : CY) (c : Nat) : Nat := C 7 c
def cT (C : CY) (c : Nat) : Nat := C 8 c
def NX (T : TY) (n m h mm : Nat) : Prop := tH T m = h ∧ tM T m = mm ∧ tL T m = tL T n ∧ tK T m = tK T n ∧ tG T m = tG T n ∧ tB T m = tB T n ∧ tD T m = tD T n ∧ tC T m = tC T n ∧ tR T m < tR T n
def NCO (a : Int) (m l : Nat) : Prop := (0 ≤ a ∧ a < m) ∨ (a ≤ -2 ∧ -2 - a < l)
def npre (k : Nat) : Nat := [0, 1, 1, 1, 1, 1, 1, 1, 2, 1, 1, 1, 0, 2, 1, 1, 1, 0, 1, 1, 1, 1, 1, 1, 1, 1, 1, 1, 2, 1].getD k 0
def PAT (w : MS) (_ _ : Nat → Nat) (PN SN L m m2 : Nat) (a : Int) : Prop := ∃ (q : Nat) (pM pE : Nat → Nat), a = q ∧ q < pE q ∧ pE q ≤ PN ∧ pM q = m ∧ pM (pE q) = m2 ∧ (∀ k, q ≤ k → k ≤ pE q → pM k ≤ m2) ∧ ∀ k, q ≤ k → k < pE q → PW w pM pE PN SN L k
def PATS (w : MS) (_ _ : Nat → Nat) (PN SN L m m2 many : Nat) (a : Int) : Prop := (many = 0 ∧ m2 = m) ∨ (0 < many ∧ ∃ (q : Nat) (pM pE : Nat → Nat), a = q ∧ CHN w pE q many (chi pE q many) ∧ q < chi pE q many ∧ chi pE q many ≤ PN ∧ pM q = m ∧ pM (chi pE q many) = m2 ∧ (∀ k, q ≤ k → k ≤ chi pE q many → pM k ≤ m2) ∧ ∀ k, q ≤ k → k < chi pE q many → PW w pM pE PN SN L k)
def CLS (C : CY) (w : MS) (CN many hg hb m l k cc r : Nat) (a : Int) : Prop := ∃ c : Nat, a = c ∧ c < CN ∧ A w 41 c = many ∧ cH C c = hg ∧ cB C c = hb ∧ cM C c = m ∧ cL C c = l ∧ cK C c = k ∧ cC C c = cc ∧ cR C c = r
def WNa (w : MS) (T : TY) (C : CY) (pM pE : Nat → Nat) (ND CN PN SN UN FN n : Nat) : Prop :=
  (A w 23 n = 11 → tG T n = 0 ∧ tB T n + 2 ≤ tH T n ∧ NX T n (n + 1) (tH T n - 1) (tM T n)) ∧
  (A w 23 n = 13 → tG T n = 0 ∧ (∃ b : Nat, A w 26 n = b ∧ b ≤ 6 ∧ tB T n + (b + 1) ≤ tH T n ∧ NX T n (n + 1) (tH T n - b) (tM T n)) ∧ (A w 30 n ≠ 0 → tK T n = 0)) ∧
  (A w 23 n = 14 → tG T n = 0 ∧ (∃ u : Nat, A w 25 n = u ∧ u < UN ∧ ∀ i : Nat, (i : Int) < A w 54 u → NCO (A w 57 ((A w 55 u).toNat + i)) (tM T n) (tL T n)) ∧ NX T n (n + 1) (tH T n + 1) (tM T n)) ∧
  (A w 23 n = 15 → tG T n = 0 ∧ 0 ≤ A w 27 n ∧ A w 27 n < FN ∧ NX T n (n + 1) (tH T n + 1) (tM T n)) ∧
  (A w 23 n = 16 → tG T n = 0 ∧ tB T n + 1 ≤ tH T n ∧ ∃ m2, PAT w pM pE PN SN (tL T n) (tM T n) m2 (A w 25 n) ∧ NX T n (n + 1) (tH T n) m2) ∧
  (A w 23 n = 17 → tG T n = 0 ∧ tB T n + 1 ≤ tH T n ∧ NX T n (n + 1) (tH T n - 1) (tM T n)) ∧
  (A w 23 n = 18 → tG T n = 0 ∧ ∃ a : Nat, A w 25 n = a ∧ tD T n ≤ a ∧ a ≤ tM T n ∧ NX T n (n + 1) (tH T n) a) ∧
  (A w 23 n = 19 → tG T n = 0 ∧ tH T (n + 1) = tH T n ∧ tM T (n + 1) = tM T n ∧ tL T (n + 1) = tL T n ∧ tK T (n + 1) = tK T n + 1 ∧ tG T (n + 1) = 0 ∧ tB T (n + 1) = tH T n ∧ tD T (n + 1) = tM T n ∧ tC T (n + 1) = n ∧ tR T (n + 1) < tR T n ∧ ∃ a : Nat, A w 25 n = a ∧ a < ND ∧ NX T n a (tH T n + 1) (tM T n)) ∧
  (A w 23 n = 20 → tG T n = 0 ∧ 1 ≤ tK T n ∧ tH T (n + 1) = tH T n ∧ tM T (n + 1) = tM T n ∧ tL T (n + 1) = tL T n ∧ tK T (n + 1) = tK T n - 1 ∧ tG T (n + 1) = 0 ∧ tB T (n + 1) + 1 ≤ tH T n ∧ tD T (n + 1) ≤ tM T n ∧ (1 < tK T n → tC T (n + 1) = tC T (tC T n)) ∧ tR T (n + 1) < tR T n) ∧
  (A w 23 n = 21 → tG T n = 0 ∧ tB T n + 1 ≤ tH T n ∧ A w 27 n = tM T n ∧ ∃ r, r < tR T n ∧ CLS C w CN 1 (tH T n) (tH T n - 1) (tM T n) (tL T n) (tK T n) (tC T n) r (A w 25 n)) ∧
  (A w 23 n = 31 → tG T n = 0 ∧ A w 27 n = tM T n ∧ ∃ r, r < tR T n ∧ CLS C w CN 0 (tH T n) (tH T n) (tM T n) (tL T n) (tK T n) (tC T n) r (A w 25 n)) ∧
  (A w 23 n = 27 → tG T n = 0 ∧ A w 27 n = tM T n ∧ (A w 25 n = -1 ∨ ∃ r, r + 1 = tR T n ∧ CLS C w CN 1 (tH T n) (tH T n) (tM T n) (tL T n) (tK T n) (tC T n) r (A w 25 n)) ∧ (A w 31 n = -1 ∨ ∃ f : Nat, A w 31 n = f ∧ f < ND ∧ ∃ b : Nat, A w 26 f = b ∧ b < ND ∧ NX T n b (tH T n) (tM T n))) ∧
  (A w 23 n = 28 → tG T n = 0 ∧ tB T n + 1 ≤ tH T n ∧ (∃ c : Nat, A w 27 n = c ∧ tD T n ≤ c ∧ c ≤ tM T n ∧ ∃ a : Nat, A w 25 n = a ∧ a < ND ∧ A w 23 a = 27 ∧ A w 31 a ≠ -1 ∧ NX T n a (tH T n - 1) c)) ∧
  (A w 23 n = 29 → tG T n = 0 ∧ 1 ≤ tH T n ∧ tK T n = 0 ∧ 1 ≤ tR T n) ∧
  (A w 23 n = 30 → tG T n = 0 ∧ NX T n (n + 1) (tH T n) (tM T n)) ∧
  (A w 23 n = 26 → tG T n = 0 ∧ ((∃ a : Nat, A w 25 n = a ∧ a < ND ∧ NX T n a (tH T n) (tM T n)) ∨ (A w 25 n = -2 ∧ ∃ r : Nat, A w 26 n = r ∧ r < ND ∧ ∃ b : Nat, A w 26 r = b ∧ b < ND ∧ NX T n b (tH T n) (tM T n))))
def WNb (w : MS) (T : TY) (C : CY) (ND SN FN n : Nat) : Prop :=
  (A w 23 n = 1 → (A w 25 n = 0 ∨ (A w 25 n = 1 ∧ 0 ≤ A w 26 n ∧ A w 26 n < F w 14)) ∧ NX T n (n + 1) (tH T n + 1) (tM T n)) ∧
  (A w 23 n = 2 → 0 ≤ A w 25 n ∧ A w 25 n < SN ∧ NX T n (n + 1) (tH T n + 1) (tM T n)) ∧
  (A w 23 n = 3 → NCO (A w 25 n) (tM T n) (tL T n) ∧ NX T n (n + 1) (tH T n + 1) (tM T n)) ∧
  (A w 23 n = 4 → ∃ a : Nat, A w 25 n = a ∧ a ≤ 8 ∧ tB T n + a ≤ tH T n ∧ NX T n (n + 1) (tH T n + 1 - a) (tM T n)) ∧
  (A w 23 n = 5 → ∃ a b : Nat, A w 25 n = a ∧ A w 26 n = b ∧ a ≤ 8 ∧ b ≤ 1 ∧ tB T n + (a + b) ≤ tH T n ∧ NX T n (n + 1) (tH T n + 1 - (a + b)) (tM T n)) ∧
  (A w 23 n = 6 → tB T n + 2 ≤ tH T n ∧ NX T n (n + 1) (tH T n - 1) (tM T n) ∧ (100 ≤ A w 25 n ∨ (12 ≤ A w 25 n ∧ A w 25 n ≤ 20) ∨ A w 25 n = 22 ∨ A w 25 n = 23)) ∧
  (A w 23 n = 7 ∨ A w 23 n = 8 → tB T n + 1 ≤ tH T n ∧ NX T n (n + 1) (tH T n) (tM T n)) ∧
  (A w 23 n = 9 ∨ A w 23 n = 10 → tB T n + 1 ≤ tH T n ∧ NX T n (n + 1) (tH T n - 1) (tM T n) ∧ ∃ a : Nat, A w 25 n = a ∧ a < ND ∧ NX T n a (tH T n) (tM T n)) ∧
  (A w 23 n = 12 → (∃ b : Nat, A w 26 n = b ∧ b ≤ 6 ∧ tB T n + b ≤ tH T n ∧ NX T n (n + 1) (tH T n + 1 - b) (tM T n) ∧ ((∃ k : Nat, A w 27 n = 2000 + k ∧ k < 30 ∧ b = npre k ∧ (tG T n ≠ 0 → 18 ≤ k)) ∨ (tG T n = 0 ∧ 0 ≤ A w 27 n ∧ A w 27 n < FN ∧ A w 48 (A w 27 n).toNat = b))) ∧ (A w 30 n ≠ 0 → tK T n = 0)) ∧
  (A w 23 n = 22 → tG T n ≠ 0 ∧ tB T n + 1 ≤ tH T n ∧ NX T n (n + 1) (tH T n - 1) (tM T n)) ∧
  (A w 23 n = 23 → tG T n ≠ 0 ∧ tH T n = cH C (tG T n - 1))
def CWD (w : MS) (T : TY) (C : CY) (pM pE : Nat → Nat) (ND CN PN SN c : Nat) : Prop :=
  (∃ many : Nat, A w 41 c = many ∧ many ≤ 6 ∧ PATS w pM pE PN SN (cL C c) (cM C c) (cN C c) many (A w 40 c)) ∧ (cM C c ≤ cN C c ∧ cN C c + cL C c ≤ 40 ∧ cR C c < 16000 ∧ cT C c ≤ 16000) ∧
  (A w 42 c = -1 ∨ ∃ g : Nat, A w 42 c = g ∧ g < ND ∧ tH T g = cH C c ∧ tG T g = c + 1 ∧ tR T g ≤ cT C c) ∧
  (∃ b : Nat, A w 43 c = b ∧ b < ND ∧ tH T b = cB C c ∧ tM T b = cN C c ∧ tL T b = cL C c ∧ tK T b = cK C c ∧ tG T b = 0 ∧ tC T b = cC C c ∧ tR T b ≤ cR C c) ∧
  (A w 45 c = -1 ∨ ∃ d : Nat, A w 45 c = d ∧ c < d ∧ d < CN ∧ A w 41 d = A w 41 c ∧ cH C d = cH C c ∧ cB C d = cB C c ∧ cM C d = cM C c ∧ cL C d = cL C c ∧ cK C d = cK C c ∧ cC C d = cC C c ∧ cR C d = cR C c ∧ cT C d ≤ cT C c)
def NW (w : MS) (T : TY) (C : CY) (ND CN n : Nat) : Prop :=
  tH T n ≤ 760 ∧ tM T n + tL T n ≤ 40 ∧ tK T n ≤ 26 ∧ tB T n ≤ tH T n ∧ tD T n ≤ tM T n ∧ (1 ≤ tR T n ∧ tR T n ≤ 16000) ∧
  (0 < tK T n → tC T n < ND ∧ A w 23 (tC T n) = 19 ∧ tK T (tC T n) + 1 = tK T n ∧ tL T (tC T n) = tL T n ∧ tH T (tC T n) ≤ tB T n ∧ tM T (tC T n) ≤ tD T n ∧ ∃ a : Nat, A w 25 (tC T n) = a ∧ tR T a < tR T n) ∧
  (tG T n ≠ 0 → ∃ c, tG T n = c + 1 ∧ c < CN ∧ tM T n = cN C c ∧ tL T n = cL C c ∧ tK T n = cK C c ∧ tC T n = cC C c ∧ tB T n = cH C c ∧ ∀ d : Nat, A w 45 c = d → cT C d < tR T n) ∧
  1 ≤ A w 23 n ∧ A w 23 n ≤ 31 ∧ A w 23 n ≠ 24 ∧ A w 23 n ≠ 25 ∧ (A w 23 n ≠ 29 → n + 1 < ND) ∧ 0 ≤ A w 24 n ∧ A w 24 n < 4002
def PRG (w : MS) (T : TY) (C : CY) (pM pE : Nat → Nat) (ND CN PN SN UN FN : Nat) : Prop :=
  (ND ≤ 16000 ∧ CN ≤ 1400 ∧ PN ≤ 2900 ∧ UN ≤ 1400 ∧ FN ≤ 1000 ∧ F w 52 = FN ∧ F w 56 = UN) ∧ STR w SN ∧
  (∀ n, n < ND → NW w T C ND CN n ∧ WNa w T C pM pE ND CN PN SN UN FN n ∧ WNb w T C ND SN FN n) ∧
  (∀ c, c < CN → CWD w T C pM pE ND CN PN SN c) ∧
  (∀ f, f < FN → ∃ a r : Nat, A w 48 f = a ∧ a ≤ 6 ∧ CLS C w CN a a 0 0 0 0 0 r (A w 50 f)) ∧
  (∀ u, u < UN → ∃ a h r : Nat, A w 54 u = h ∧ h ≤ 40 ∧ 0 ≤ A w 55 u ∧ A w 55 u + h ≤ 24000 ∧ a ≤ 6 ∧ CLS C w CN a a 0 0 h 0 0 r (A w 53 u))
end
