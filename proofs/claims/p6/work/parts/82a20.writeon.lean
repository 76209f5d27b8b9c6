section
variable {h : Nat → Int64} {n p N f : Nat} {ow kd : Nat → Nat} {Fv : Int64 → Int64 → Prop} {P : Int64 → Prop} {u0 : MS} {B : Int}
def ENT (h : Nat → Int64) (n : Nat) (ow kd : Nat → Nat) (Fv : Int64 → Int64 → Prop) (P : Int64 → Prop) (f : Nat) (t : Int64) (k : Nat) : Prop :=
  (so t = 20 ∧ k = 1) ∨ (so t = 21 ∧ 0 ≤ va t ∧ vn t + 2 ≤ n ∧ ∃ d, k = 3 + 2 * d ∧ SZ h n ow kd Fv P f (h (vn t + 1)) d) ∨ ∃ c, k = 1 + 2 * c ∧ SZ h n ow kd Fv P f t c
def PS (P : Int64 → Prop) : Prop := ∀ t, P t → so t = 0 ∨ so t = 1 ∨ so t = 2 ∨ so t = 4 ∨ so t = 6
theorem ENT_pos {t : Int64} {k : Nat} (e : ENT h n ow kd Fv P f t k) : 1 ≤ k := by
  rcases e with ⟨-, e⟩ | ⟨-, -, -, d, e, -⟩ | ⟨c, e, -⟩ <;> omega
def WOI (B : Int) (u0 : MS) (h : Nat → Int64) (n : Nat) (ow kd : Nat → Nat) (Fv : Int64 → Int64 → Prop) (P : Int64 → Prop) (f : Nat) (u : MS) (many : Nat) (c : Nat → Nat) : Prop :=
  FR [144] [] [143] [141] u0 u ∧ 0 ≤ F u 144 ∧ F u 144 ≤ B ∧ (∀ i, i < many → ENT h n ow kd Fv P f (u.2.2.2 141 i) (c i)) ∧ smm c 0 many ≤ 2001
theorem WOI_many {u : MS} {many : Nat} {c : Nat → Nat} (w : WOI B u0 h n ow kd Fv P f u many c) : many ≤ 2001 := Nat.le_trans (smm_ge (fun i hi => ENT_pos (w.2.2.2.1 i hi))) w.2.2.2.2
theorem WOI_txt {u w : MS} {many : Nat} {c : Nat → Nat} {k : Int} (a : WOI B u0 h n ow kd Fv P f u many c) (t : TXT u w k) (hk : F w 144 ≤ B) : WOI B u0 h n ow kd Fv P f w many c := by
  obtain ⟨a1, a2, a3, a4, a5⟩ := a
  refine ⟨FR.tr a1 (FR.mo t.1 (fun _ z => z) (fun _ z => z) (fun _ z => z) (fun _ z => by cases z)), by have := t.2.1; omega, hk, ?_, a5⟩
  rw [t.1.2.2.2 141 (by decide)]
  exact a4
theorem WOI_push {u : MS} {many : Nat} {c : Nat → Nat} {t : Int64} {k : Nat} (a : WOI B u0 h n ow kd Fv P f u many c) (e : ENT h n ow kd Fv P f t k) (hk : smm c 0 many + k ≤ 2001) : WOI B u0 h n ow kd Fv P f (wj u 141 many t) (many + 1) (fun i => if i = many then k else c i) := by
  obtain ⟨a1, a2, a3, a4, a5⟩ := a
  refine ⟨FR.wj a1 (by decide), a2, a3, fun i hi => ?_, by rw [smm_upd]; exact hk⟩
  rw [J_wj, if_pos rfl]
  by_cases e2 : i = many
  · subst e2; rw [if_pos rfl]; simp only [if_true]; exact e
  · rw [if_neg e2]; simp only [if_neg e2]; exact a4 i (by omega)
theorem WOI_pop {u : MS} {many : Nat} {c : Nat → Nat} (a : WOI B u0 h n ow kd Fv P f u (many + 1) c) : WOI B u0 h n ow kd Fv P f u many c ∧ ENT h n ow kd Fv P f (u.2.2.2 141 many) (c many) ∧ smm c 0 many + c many ≤ 2001 := by
  obtain ⟨a1, a2, a3, a4, a5⟩ := a
  have e : smm c 0 (many + 1) = smm c 0 many + c many := by show smm c 0 many + c (0 + many) = _; rw [Nat.zero_add]
  exact ⟨⟨a1, a2, a3, fun i hi => a4 i (by omega), by omega⟩, a4 many (by omega), by omega⟩
theorem rest_ok {u : MS} {many v d : Nat} {c : Nat → Nat} (hp1 : p < 25) (hn : n ≤ 500) (g : HP h n ow kd Fv P) (h0 : hp u0 p = h) (a : WOI B u0 h n ow kd Fv P f u many c) (hB : 6000 ≤ B ∧ B ≤ 90000) (hF : F u 144 ≤ 100) (hv : v + 2 ≤ n) (z : SZ h n ow kd Fv P f (h (v + 1)) d) (hk : smm c 0 many + (3 + 2 * d) ≤ 2001) :
    OK (fun w r => ∃ many2 c2, r = I ((many2 : Nat) : Int) ∧ WOI B u0 h n ow kd Fv P f w many2 c2 ∧ smm c2 0 many2 + 1 ≤ smm c 0 many + (3 + 2 * d)) (fm_M_restOfList N u (I p) (I many) (I v)) := by
  have hm := WOI_many a
  have eh : hp u p = h := by rw [← h0]; unfold hp; rw [a.1.2.2.2 88 (by decide)]
  unfold fm_M_restOfList fb_M_restOfList_0 fb_M_restOfList_124
  rw [lit1q, I_add, show (v : Int) + 1 = ((v + 1 : Nat) : Int) from by omega, cell_e hp1 (by omega), bnd_so, eh]
  generalize hy : h (v + 1) = y at *
  have ry := so_r y
  rw [sortOf_e, bnd_so, show (6 : Int32) = I 6 from rfl, show (7 : Int32) = I 7 from rfl, decE ry.1 ry.2 (by omega) (by omega)]
  by_cases e6 : so y = 6
  · rw [decide_eq_true e6, br_tq]
    refine ok_bnd.mpr (ok_mono (sign_ok a.2.1 (by omega)) (fun w _ q => ok_some.mpr ⟨many, c, rfl, WOI_txt a q.1 (by have := q.2; omega), by omega⟩))
  rw [decide_eq_false e6, br_fq, sortOf_e, bnd_so, decE ry.1 ry.2 (by omega) (by omega)]
  by_cases e7 : so y = 7
  · rw [decide_eq_true e7, br_tq]
    refine ok_bnd.mpr (ok_mono (sign_ok a.2.1 (by omega)) (fun w _ q => ?_))
    have aw := WOI_txt a q.1 (by have := q.2; omega)
    have hyh : isH y := Or.inr (Or.inr e7)
    have gy := SZ_gt z
    obtain ⟨b, pt⟩ := HP_bk g hyh gy
    have bb : blk h y = 2 := by unfold blk; rw [e7]; rfl
    have pp : prt y = 0 := by unfold prt; rw [e7]; rfl
    have bn := b.2.2.2.1
    have vy : va y = (vn y : Int) := by have := b.1; unfold vn; omega
    obtain ⟨f', hf'⟩ : ∃ f', f = f' + 1 := by cases f with | zero => exact z.elim | succ f' => exact ⟨f', rfl⟩
    subst hf'
    rcases z with ⟨z1, -⟩ | ⟨-, -, cc, z3, z4⟩
    · exact absurd hyh z1
    rw [bb, pp] at z3 z4
    have zd : d = 2 + (cc 0 + cc 1) := by rw [z4]; show 2 + (0 + cc (0 + 0) + cc (0 + 1)) = _; simp
    rw [valueOf_e, bnd_so, show (21 : Int32) = I 21 from rfl, term_e, bnd_so, inb_at (k := 141) (n := 3000) rfl (by omega) (by omega) (by decide), ck_t, lt_e, I_tn (by omega) (by omega), Int.toNat_natCast, wj_e, valueOf_e, bnd_so, vy, cell_e hp1 (by omega), bnd_so, I_add, inb_at (k := 141) (n := 3000) rfl (by omega) (by omega) (by decide), ck_t, lt_e, I_tn (by omega) (by omega), show ((many : Int) + 1).toNat = many + 1 from by omega, wj_e, show (2 : Int32) = I 2 from rfl, I_add]
    have ehw : hp (wj w 141 many (mk 21 (vn y : Int))) p = h := by rw [← h0]; unfold hp; rw [wj_ne (show 88 ≠ 141 by decide), aw.1.2.2.2 88 (by decide)]
    rw [ehw]
    have e21 : so (mk 21 (vn y : Int)) = 21 := so_mk (by omega) (by omega)
    have v21 : va (mk 21 (vn y : Int)) = (vn y : Int) := va_mk (by omega) (by omega)
    have n21 : vn (mk 21 (vn y : Int)) = vn y := by show (va _).toNat = _; rw [v21]; omega
    have en1 : ENT h n ow kd Fv P (f' + 1) (mk 21 (vn y : Int)) (3 + 2 * cc 1) := Or.inr (Or.inl ⟨e21, by omega, by rw [n21]; omega, cc 1, rfl, by rw [n21]; exact SZ_mono (z3 1 (by omega) (by omega))⟩)
    have en2 : ENT h n ow kd Fv P (f' + 1) (h (vn y)) (1 + 2 * cc 0) := Or.inr (Or.inr ⟨cc 0, rfl, SZ_mono (z3 0 (by omega) (by omega))⟩)
    have w1 := WOI_push aw en1 (by omega)
    have w2 := WOI_push w1 en2 (by rw [smm_upd]; omega)
    refine ok_some.mpr ⟨many + 2, _, by congr 1, w2, ?_⟩
    rw [smm_upd, smm_upd]; omega
  · rw [decide_eq_false e7, br_fq]
    refine ok_bnd.mpr (ok_mono (sign_ok a.2.1 (by omega)) (fun w _ q => ?_))
    have aw := WOI_txt a q.1 (by have := q.2; omega)
    rw [show (20 : Int32) = I 20 from rfl, show (93 : Int32) = I 93 from rfl, term_e, bnd_so, inb_at (k := 141) (n := 3000) rfl (by omega) (by omega) (by decide), ck_t, lt_e, I_tn (by omega) (by omega), Int.toNat_natCast, wj_e, I_add, inb_at (k := 141) (n := 3000) rfl (by omega) (by omega) (by decide), ck_t, lt_e, I_tn (by omega) (by omega), show ((many : Int) + 1).toNat = many + 1 from by omega, wj_e, show (2 : Int32) = I 2 from rfl, I_add]
    have en1 : ENT h n ow kd Fv P f (mk 20 93) 1 := Or.inl ⟨so_mk (by omega) (by omega), rfl⟩
    have en2 : ENT h n ow kd Fv P f y (1 + 2 * d) := Or.inr (Or.inr ⟨d, rfl, z⟩)
    have w1 := WOI_push aw en1 (by omega)
    have w2 := WOI_push w1 en2 (by rw [smm_upd]; omega)
    refine ok_some.mpr ⟨many + 2, _, by congr 1, w2, ?_⟩
    rw [smm_upd, smm_upd]; omega
end
section
variable {h : Nat → Int64} {n p N f : Nat} {ow kd : Nat → Nat} {Fv : Int64 → Int64 → Prop} {P : Int64 → Prop} {u0 : MS} {B : Int}
theorem wo_loop (hB : 6000 ≤ B ∧ B ≤ 90000) (hp1 : p < 25) (hn : n ≤ 500) (g : HP h n ow kd Fv P) (h0 : hp u0 p = h) (hat : ATM u0) (hP : ∀ t, P t → PA u0 t) (hS : PS P) (hN : 100 ≤ N) : ∀ (m : Nat),
    (∀ (u : MS) (many : Nat) (c : Nat → Nat), WOI B u0 h n ow kd Fv P f u many c → 5100 * smm c 0 many + 1 < m → OK (fun w _ => FR [144] [] [143] [141] u0 w ∧ 0 ≤ F w 144 ∧ F w 144 ≤ B) ((gg_M_writeOn N m).1 u (I p) (I many))) ∧
    (∀ (u : MS) (many v k : Nat) (c : Nat → Nat), WOI B u0 h n ow kd Fv P f u many c → (v : Int) < F u0 14 → (k : Int) ≤ A u0 13 (v + 1) → F u 144 ≤ 100 + k → 5100 * smm c 0 many + (5000 - k) + 2 < m → OK (fun w _ => FR [144] [] [143] [141] u0 w ∧ 0 ≤ F w 144 ∧ F w 144 ≤ B) ((gg_M_writeOn N m).2.1 u (I p) (I many) (I v) (I k))) ∧
    (∀ (u : MS) (many v k : Nat) (c d : Nat → Nat), WOI B u0 h n ow kd Fv P f u many c → v + 1 + k ≤ n → (∀ i, 1 ≤ i → i < 1 + k → SZ h n ow kd Fv P f (h (v + i)) (d i)) → smm c 0 many + (2 * k + 2 * smm d 1 k) ≤ 2001 → 5100 * (smm c 0 many + (2 * k + 2 * smm d 1 k)) + k + 2 < m → OK (fun w _ => FR [144] [] [143] [141] u0 w ∧ 0 ≤ F w 144 ∧ F w 144 ≤ B) ((gg_M_writeOn N m).2.2 u (I p) (I many) (I v) (I k))) := by
  have hat' := hat
  obtain ⟨t1, t2, t3⟩ := hat
  intro m
  induction m with
  | zero => exact ⟨fun u many c _ z => absurd z (Nat.not_lt_zero _), fun u many v k c _ _ _ _ z => absurd z (Nat.not_lt_zero _), fun u many v k c d _ _ _ _ z => absurd z (Nat.not_lt_zero _)⟩
  | succ m ih =>
    obtain ⟨ih1, ih2, ih3⟩ := ih
    refine ⟨fun u many c a hm => ?_, fun u many v k c a hv hk hF hm => ?_, fun u many v k c d a hv hd hb hm => ?_⟩
    · have hmany := WOI_many a
      show OK _ (fb_M_writeOn_10 N (gg_M_writeOn N m) u (I p) (I many))
      unfold fb_M_writeOn_10 fb_M_writeOn_387 fb_M_writeOn_384
      rw [lit0q, decI (by omega) (by omega) (by omega) (by omega)]
      have fin : OK (fun w _ => FR [144] [] [143] [141] u0 w ∧ 0 ≤ F w 144 ∧ F w 144 ≤ B) (some (u, ())) := ok_some.mpr ⟨a.1, a.2.1, a.2.2.1⟩
      cases many with
      | zero => rw [decide_eq_true (by omega), br_tq]; exact fin
      | succ many =>
        rw [decide_eq_false (by omega), br_fq]
        have ea : I (F u 144) = u.1 144 := I_F.symm
        rw [← ea, lit100, decI (by omega) (by omega) (by have := a.2.1; omega) (by have := a.2.2.1; omega)]
        by_cases e100 : 100 ≤ F u 144
        · rw [decide_eq_true e100, br_tq]; exact fin
        rw [decide_eq_false e100, br_fq, litm1q, I_add, show ((many + 1 : Nat) : Int) + -1 = (many : Int) from by omega, inb_at (k := 141) (n := 3000) rfl (by omega) (by omega) (by decide), ck_t, lt_e, I_tn (x := (many : Int)) (by omega) (by omega), Int.toNat_natCast]
        obtain ⟨ap, ent, hsum⟩ := WOI_pop a
        have hlast : smm c 0 (many + 1) = smm c 0 many + c many := by show smm c 0 many + c (0 + many) = _; rw [Nat.zero_add]
        have cp := ENT_pos ent
        generalize u.2.2.2 141 many = y at ent ⊢
        have ry := so_r y
        rw [sortOf_e, bnd_so, valueOf_e, bnd_so, show (20 : Int32) = I 20 from rfl, show (21 : Int32) = I 21 from rfl, show (4 : Int32) = I 4 from rfl, show (2 : Int32) = I 2 from rfl, show (3 : Int32) = I 3 from rfl, show (6 : Int32) = I 6 from rfl, show (7 : Int32) = I 7 from rfl, lit1q, decE ry.1 ry.2 (by omega) (by omega), decE ry.1 ry.2 (by omega) (by omega), decE ry.1 ry.2 (by omega) (by omega), decE ry.1 ry.2 (by omega) (by omega), decE ry.1 ry.2 (by omega) (by omega), decE ry.1 ry.2 (by omega) (by omega), decE ry.1 ry.2 (by omega) (by omega), decE ry.1 ry.2 (by omega) (by omega), decE ry.1 ry.2 (by omega) (by omega)]
        have F0 := a.2.1
        have on : ∀ (w : MS) (k : Int), TXT u w k → k ≤ 20 → OK (fun w _ => FR [144] [] [143] [141] u0 w ∧ 0 ≤ F w 144 ∧ F w 144 ≤ B) ((gg_M_writeOn N m).1 w (I p) (I many)) := fun w k t hk => ih1 w many c (WOI_txt ap t (by have := t.2.2; omega)) (by omega)
        by_cases e20 : so y = 20
        · rw [decide_eq_true e20, br_tq]
          exact ok_bnd.mpr (ok_mono (sign_ok F0 (by omega)) (fun w _ q => on w 1 q.1 (by omega)))
        rw [decide_eq_false e20, br_fq]
        by_cases e21 : so y = 21
        · rw [decide_eq_true e21, br_tq]
          rcases ent with ⟨z, -⟩ | ⟨-, z2, z3, d, z4, z5⟩ | ⟨cc, z1, z2⟩
          · exact absurd z e20
          · rw [show va y = (vn y : Int) from by unfold vn; omega]
            refine ok_bnd.mpr (ok_mono (rest_ok hp1 hn g h0 ap hB (by omega) z3 z5 (by omega)) (fun w r q => ?_))
            obtain ⟨m2, c2, q1, q2, q3⟩ := q
            rw [q1]
            exact ih1 w m2 c2 q2 (by omega)
          · exfalso
            rcases SZ_gt z2 with ⟨-, w⟩ | ⟨w, -⟩
            · have := hS y w; omega
            · unfold isH at w; omega
        rw [decide_eq_false e21, br_fq]
        obtain ⟨cc, z1, z2⟩ : ∃ cc, c many = 1 + 2 * cc ∧ SZ h n ow kd Fv P f y cc := by
          rcases ent with ⟨z, -⟩ | ⟨z, -⟩ | z
          · exact absurd z e20
          · exact absurd z e21
          · exact z
        have gy := SZ_gt z2
        by_cases e0 : so y = 0
        · rw [decide_eq_true e0, br_tq]
          exact ok_bnd.mpr (ok_mono (digits_ok F0 (by omega) hN) (fun w _ q => on w 12 q (by omega)))
        rw [decide_eq_false e0, br_fq]
        by_cases e1 : so y = 1
        · rw [decide_eq_true e1, br_tq]
          obtain ⟨a1, a2⟩ := gt_pa hP gy e1
          have ev : va y = ((va y).toNat : Int) := by omega
          obtain ⟨b1, b2, b3⟩ := t3 (va y).toNat (by omega)
          rw [inb_at (k := 13) (n := 2200) rfl (by omega) (by omega) (by decide), ck_t, I_tn (by omega) (by omega), I_A' (show A u 13 (va y).toNat = ((A u0 13 (va y).toNat).toNat : Int) from by rw [FR.A a.1 (by decide)]; omega)]
          rw [ev, Int.toNat_natCast]
          exact ih2 u many (va y).toNat (A u0 13 (va y).toNat).toNat c ap (by omega) (by omega) (by omega) (by omega)
        rw [decide_eq_false e1, br_fq]
        by_cases e4 : so y = 4
        · rw [decide_eq_true e4, br_tq]
          refine ok_bnd.mpr (ok_mono (sign_ok F0 (by omega)) (fun w1 _ q1 => ok_bnd.mpr (ok_mono (digits_ok (by have := q1.2; omega) (by have := q1.2; omega) hN) (fun w2 _ q2 => ok_bnd.mpr (ok_mono (sign_ok (by have := q1.2; have := q2.2.1; omega) (by have := q1.2; have := q2.2.2; omega)) (fun w3 _ q3 => ?_))))))
          exact on w3 14 (TXT.tr (TXT.tr (c := 13) q1.1 q2 (by omega)) q3.1 (by omega)) (by omega)
        rw [decide_eq_false e4, br_fq]
        by_cases e2 : so y = 2
        · rw [decide_eq_true e2, br_tq]
          refine ok_bnd.mpr (ok_mono (sign_ok F0 (by omega)) (fun w1 _ q1 => ok_bnd.mpr (ok_mono (digits_ok (by have := q1.2; omega) (by have := q1.2; omega) hN) (fun w2 _ q2 => ?_))))
          exact on w2 13 (TXT.tr q1.1 q2 (by omega)) (by omega)
        rw [decide_eq_false e2, br_fq]
        by_cases e3 : so y = 3
        · rw [decide_eq_true e3, br_tq]
          refine ok_bnd.mpr (ok_mono (sign_ok F0 (by omega)) (fun w1 _ q1 => ok_bnd.mpr (ok_mono (sign_ok (by have := q1.2; omega) (by have := q1.2; omega)) (fun w2 _ q2 => ok_bnd.mpr (ok_mono (sign_ok (by have := q1.2; have := q2.2; omega) (by have := q1.2; have := q2.2; omega)) (fun w3 _ q3 => ?_))))))
          exact on w3 3 (TXT.tr (TXT.tr (c := 2) q1.1 q2.1 (by omega)) q3.1 (by omega)) (by omega)
        rw [decide_eq_false e3, br_fq]
        by_cases e6 : so y = 6
        · rw [decide_eq_true e6, br_tq]
          refine ok_bnd.mpr (ok_mono (sign_ok F0 (by omega)) (fun w1 _ q1 => ok_bnd.mpr (ok_mono (sign_ok (by have := q1.2; omega) (by have := q1.2; omega)) (fun w2 _ q2 => ?_))))
          exact on w2 2 (TXT.tr q1.1 q2.1 (by omega)) (by omega)
        rw [decide_eq_false e6, br_fq]
        have hy : isH y := by
          rcases gy with ⟨-, w⟩ | ⟨w, -⟩
          · have := hS y w; omega
          · exact w
        obtain ⟨b, pt⟩ := HP_bk g hy gy
        have bn := b.2.2.2.1
        have bp := blk_pos (h := h) hy
        have vy : va y = (vn y : Int) := by have := b.1; unfold vn; omega
        obtain ⟨f', hf'⟩ : ∃ f', f = f' + 1 := by cases f with | zero => exact z2.elim | succ f' => exact ⟨f', rfl⟩
        subst hf'
        rcases z2 with ⟨w, -⟩ | ⟨-, -, d, z3, z4⟩
        · exact absurd hy w
        by_cases e7 : so y = 7
        · rw [decide_eq_true e7, br_tq]
          refine ok_bnd.mpr (ok_mono (sign_ok F0 (by omega)) (fun w _ q => ?_))
          have aw := WOI_txt ap q.1 (by have := q.2; omega)
          have bb : blk h y = 2 := by unfold blk; rw [e7]; rfl
          have pp : prt y = 0 := by unfold prt; rw [e7]; rfl
          rw [bb, pp] at z3 z4
          have zd : cc = 2 + (d 0 + d 1) := by rw [z4]; show 2 + (0 + d (0 + 0) + d (0 + 1)) = _; simp
          rw [vy, term_e, bnd_so, ck_t, lt_e, wj_e, cell_e hp1 (by omega), bnd_so, I_add, inb_at (k := 141) (n := 3000) rfl (by omega) (by omega) (by decide), ck_t, lt_e, I_tn (by omega) (by omega), show ((many : Int) + 1).toNat = many + 1 from by omega, wj_e, I_add]
          have ehw : hp (wj w 141 many (mk 21 (vn y : Int))) p = h := by rw [← h0]; unfold hp; rw [wj_ne (show 88 ≠ 141 by decide), aw.1.2.2.2 88 (by decide)]
          rw [ehw]
          have e21 : so (mk 21 (vn y : Int)) = 21 := so_mk (by omega) (by omega)
          have v21 : va (mk 21 (vn y : Int)) = (vn y : Int) := va_mk (by omega) (by omega)
          have n21 : vn (mk 21 (vn y : Int)) = vn y := by show (va _).toNat = _; rw [v21]; omega
          have en1 : ENT h n ow kd Fv P (f' + 1) (mk 21 (vn y : Int)) (3 + 2 * d 1) := Or.inr (Or.inl ⟨e21, by omega, by rw [n21]; omega, d 1, rfl, by rw [n21]; exact SZ_mono (z3 1 (by omega) (by omega))⟩)
          have en2 : ENT h n ow kd Fv P (f' + 1) (h (vn y)) (1 + 2 * d 0) := Or.inr (Or.inr ⟨d 0, rfl, SZ_mono (z3 0 (by omega) (by omega))⟩)
          have w1 := WOI_push aw en1 (by omega)
          have w2 := WOI_push w1 en2 (by rw [smm_upd]; omega)
          have := ih1 _ (many + 2) _ w2 (by rw [smm_upd, smm_upd]; omega)
          rw [show ((many + 2 : Nat) : Int) = (many : Int) + 2 from by omega] at this
          exact this
        rw [decide_eq_false e7, br_fq]
        have e5 : so y = 5 := by unfold isH at hy; omega
        refine ok_bnd.mpr (ok_mono (sign_ok F0 (by omega)) (fun w _ q => ?_))
        have aw := WOI_txt ap q.1 (by have := q.2; omega)
        have bb : blk h y = 1 + vn (h (vn y)) := by unfold blk; rw [e5]; rfl
        have pp : prt y = 1 := by unfold prt; rw [e5]; rfl
        have b5 := (b.2.1 e5).1
        rw [bb, pp, Nat.add_sub_cancel_left] at z4
        rw [bb, pp] at z3
        rw [vy, show (125 : Int32) = I 125 from rfl, term_e, bnd_so, ck_t, lt_e, wj_e, cell_e hp1 (by omega), bnd_so, I_add]
        have ehw : hp (wj w 141 many (mk 20 125)) p = h := by rw [← h0]; unfold hp; rw [wj_ne (show 88 ≠ 141 by decide), aw.1.2.2.2 88 (by decide)]
        rw [ehw, I_of (h (vn y)).toInt32]
        have en1 : ENT h n ow kd Fv P (f' + 1) (mk 20 125) 1 := Or.inl ⟨so_mk (by omega) (by omega), rfl⟩
        have w1 := WOI_push aw en1 (by omega)
        have := ih3 _ (many + 1) (vn y) (vn (h (vn y))) _ d w1 (by omega) (fun i a b2 => SZ_mono (z3 i a b2)) (by rw [smm_upd]; omega) (by rw [smm_upd]; omega)
        rw [show ((many + 1 : Nat) : Int) = (many : Int) + 1 from by omega, show ((vn (h (vn y)) : Nat) : Int) = (h (vn y)).toInt32.toInt from by show (((va (h (vn y))).toNat : Nat) : Int) = va (h (vn y)); omega] at this
        exact this
    · have hmany := WOI_many a
      obtain ⟨b1, b2, b3⟩ := t3 v hv
      show OK _ (fb_M_writeOn_116 N (gg_M_writeOn N m) u (I p) (I many) (I v) (I k))
      unfold fb_M_writeOn_116 fb_M_writeOn_384
      rw [lit1q, I_add, inb_at (k := 13) (n := 2200) rfl (by omega) (by omega) (by decide), ck_t, I_tn (by omega) (by omega), show ((v : Int) + 1).toNat = v + 1 from by omega, I_A' (show A u 13 (v + 1) = A u0 13 (v + 1) from FR.A a.1 (by decide)), decI (by omega) (by omega) (by omega) (by omega)]
      by_cases e : A u0 13 (v + 1) ≤ k
      · rw [decide_eq_true e, br_tq]
        exact ih1 u many c a (by omega)
      · rw [decide_eq_false e, br_fq, inb_at (k := 12) (n := 5000) rfl (by omega) (by omega) (by decide), ck_t]
        refine ok_bnd.mpr (ok_mono (sign_ok a.2.1 (by omega)) (fun w _ q => ?_))
        have := q.2
        rw [I_add]
        exact ih2 w many v (k + 1) c (WOI_txt a q.1 (by omega)) hv (by omega) (by omega) (by omega)
    · have hmany := WOI_many a
      show OK _ (fb_M_writeOn_329 N (gg_M_writeOn N m) u (I p) (I many) (I v) (I k))
      unfold fb_M_writeOn_329 fb_M_writeOn_378 fb_M_writeOn_384
      have eh : hp u p = h := by rw [← h0]; unfold hp; rw [a.1.2.2.2 88 (by decide)]
      rw [lit1q, decL (by omega) (by omega) (by omega) (by omega)]
      cases k with
      | zero =>
        rw [decide_eq_true (by omega), br_tq]
        exact ih1 u many c a (by omega)
      | succ k =>
        have hsd : smm d 1 (k + 1) = smm d 1 k + d (1 + k) := rfl
        rw [decide_eq_false (by omega), br_fq, I_add, show (v : Int) + ((k + 1 : Nat) : Int) = ((v + (k + 1) : Nat) : Int) from by omega, cell_e hp1 (by omega), bnd_so, eh, inb_at (k := 141) (n := 3000) rfl (by omega) (by omega) (by decide), ck_t, lt_e, I_tn (x := (many : Int)) (by omega) (by omega), Int.toNat_natCast, wj_e, decI (by omega) (by omega) (by omega) (by omega), I_neg, I_add, I_add, I_add]
        have en1 : ENT h n ow kd Fv P f (h (v + (k + 1))) (1 + 2 * d (1 + k)) := Or.inr (Or.inr ⟨d (1 + k), rfl, by have := hd (1 + k) (by omega) (by omega); rw [show v + (1 + k) = v + (k + 1) from by omega] at this; exact this⟩)
        have w1 := WOI_push a en1 (by omega)
        by_cases e : k = 0
        · subst e
          rw [decide_eq_true (by omega), br_tq]
          have := ih3 _ (many + 1) v 0 _ d w1 (by omega) (fun i a b2 => by omega) (by rw [smm_upd]; show _ + (2 * 0 + 2 * 0) ≤ 2001; omega) (by rw [smm_upd]; show 5100 * (_ + (2 * 0 + 2 * 0)) + 0 + 2 < m; omega)
          exact this
        · rw [decide_eq_false (by omega), br_fq, show (20 : Int32) = I 20 from rfl, show (44 : Int32) = I 44 from rfl, term_e, bnd_so, inb_at (k := 141) (n := 3000) rfl (by omega) (by omega) (by decide), ck_t, lt_e, I_tn (by omega) (by omega), show ((many : Int) + 1).toNat = many + 1 from by omega, wj_e]
          have en2 : ENT h n ow kd Fv P f (mk 20 44) 1 := Or.inl ⟨so_mk (by omega) (by omega), rfl⟩
          have w2 := WOI_push w1 en2 (by rw [smm_upd]; omega)
          have := ih3 _ (many + 1 + 1) v k _ d w2 (by omega) (fun i a b2 => hd i a (by omega)) (by rw [smm_upd, smm_upd]; omega) (by rw [smm_upd, smm_upd]; omega)
          rw [show ((k + 1 : Nat) : Int) + -1 = (k : Int) from by omega, show (many : Int) + 1 + 1 = ((many + 1 + 1 : Nat) : Int) from by omega]
          exact this
theorem writeOn_ok {t : Int64} (hB : 6000 ≤ B ∧ B ≤ 90000) (hp1 : p < 25) (hn : n ≤ 500) (g : HP (hp u0 p) n ow kd Fv P) (hat : ATM u0) (hP : ∀ t, P t → PA u0 t) (hS : PS P) (ht : GT n ow kd P t) (h1 : 0 ≤ F u0 144) (h2 : F u0 144 ≤ B) (hN : 11000000 ≤ N) : OK (fun w _ => FR [144] [] [143] [141] u0 w ∧ 0 ≤ F w 144 ∧ F w 144 ≤ B) (fm_M_writeOn N u0 (I p) t) := by
  obtain ⟨f, s, z⟩ := HP_sz g ht
  have hs := SZ_1000 g hn z
  unfold fm_M_writeOn fb_M_writeOn_0
  rw [lit0q, lit1q, inb_at (k := 141) (n := 3000) rfl (by omega) (by omega) (by decide), ck_t, lt_e, I_tn (by omega) (by omega), wj_e]
  refine (wo_loop (f := f) hB hp1 hn g rfl hat hP hS (by omega) N).1 (wj u0 141 0 t) 1 (fun _ => 1 + 2 * s) ⟨FR.wj FR.rf (by decide), h1, h2, fun i hi => ?_, by show 0 + (1 + 2 * s) ≤ 2001; omega⟩ (by show 5100 * (0 + (1 + 2 * s)) + 1 < N; omega)
  have e : i = 0 := by omega
  subst e
  rw [J_wj, if_pos rfl, if_pos rfl]
  exact Or.inr (Or.inr ⟨s, rfl, z⟩)
end
