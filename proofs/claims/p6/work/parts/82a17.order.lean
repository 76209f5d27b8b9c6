def FVH (Fv : Int64 → Int64 → Prop) : Prop := (∀ a b, Fv a b → -100000 < a.toInt ∧ a.toInt < 100000) ∧ (∀ a b c, Fv a b → Fv a c → va b = va c)
def ATM (w : MS) : Prop := 0 ≤ F w 14 ∧ F w 14 ≤ 2199 ∧ ∀ k : Nat, (k : Int) < F w 14 → 0 ≤ A w 13 k ∧ A w 13 k ≤ A w 13 (k + 1) ∧ A w 13 (k + 1) ≤ 5000
def PA (w : MS) (t : Int64) : Prop := so t = 1 → 0 ≤ va t ∧ va t < F w 14
theorem cmp_e {N : Nat} {u : MS} {a b : Int64} : ∃ r : Int, -1 ≤ r ∧ r ≤ 1 ∧ fm_M_compare N u a b = some (u, I r) ∧ (r = 0 → a = b) := by
  unfold fm_M_compare fb_M_compare_0 fb_M_compare_21 lg_cmp
  by_cases h1 : a > b
  · refine ⟨1, by omega, by omega, ?_, fun z => by omega⟩
    rw [if_pos h1]
    rfl
  · rw [if_neg h1]
    by_cases h2 : a = b
    · refine ⟨0, by omega, by omega, ?_, fun _ => h2⟩
      rw [if_pos h2]
      rfl
    · refine ⟨-1, by omega, by omega, ?_, fun z => by omega⟩
      rw [if_neg h2]
      rfl
theorem lgc_ge (x : Int64) : (0 ≤ lg_cmp x 0) ↔ 0 ≤ x.toInt := by
  unfold lg_cmp
  have z : (0 : Int64).toInt = 0 := by decide
  simp only [gt_iff_lt, Int64.lt_iff_toInt_lt, ← Int64.toInt_inj, z]
  repeat' split
  all_goals (constructor <;> intro h <;> first | omega | exact absurd h (by decide) | decide)
theorem lgc_lt (x : Int64) : (lg_cmp x 0 < 0) ↔ x.toInt < 0 := by
  unfold lg_cmp
  have z : (0 : Int64).toInt = 0 := by decide
  simp only [gt_iff_lt, Int64.lt_iff_toInt_lt, ← Int64.toInt_inj, z]
  repeat' split
  all_goals (constructor <;> intro h <;> first | omega | exact absurd h (by decide) | decide)
theorem sub_1e5 {c : Int64} (h1 : -100000 < c.toInt) (h2 : c.toInt < 100000) : (100000 - c).toInt = 100000 - c.toInt := by
  rw [Int64.toInt_sub]
  have : (100000 : Int64).toInt = 100000 := by decide
  rw [this, Int.bmod_eq_of_le] <;> omega
theorem cmp_q {N : Nat} {u : MS} (a b : Int64) (Q : Int32 → Prop) (h : ∀ r : Int, -1 ≤ r → r ≤ 1 → (r = 0 → a = b) → Q (I r)) : OK (fun w r => w = u ∧ Q r) (fm_M_compare N u a b) := by
  obtain ⟨r, r1, r2, e, r3⟩ := cmp_e (N := N) (u := u) (a := a) (b := b)
  rw [e]
  exact ok_some.mpr ⟨rfl, h r r1 r2 r3⟩
theorem I_0 (r : Int) (h1 : -1 ≤ r) (h2 : r ≤ 1) (e : I r = 0) : r = 0 := (I_eq (y := 0) (by omega) (by omega) (by omega) (by omega)).mp e
theorem cmp_z {N : Nat} {u : MS} {cx cy : Int64} (a b : Int64) (h : a = b → cx = cy) : OK (fun w r => w = u ∧ (r = 0 → cx = cy)) (bnd (fm_M_compare N u a b) (fun u1 r1 => some (u1, r1))) :=
  ok_bnd.mpr (ok_mono (cmp_q a b (fun r => r = 0 → cx = cy) (fun r r1 r2 r3 z => h (r3 (I_0 r r1 r2 z)))) (fun _ _ q => ok_some.mpr q))
theorem one128 {N : Nat} {u : MS} {cx cy : Int64} (x1 : -100000 < cx.toInt) (x2 : cx.toInt < 100000) (y1 : -100000 < cy.toInt) (y2 : cy.toInt < 100000) : OK (fun w r => w = u ∧ (r = 0 → cx = cy)) (fb_M_orderOne_128 N () u cx cy) := by
  unfold fb_M_orderOne_128 fb_M_orderOne_146 fb_M_orderOne_164 fb_M_orderOne_177
  have e1 := sub_1e5 x1 x2
  have e2 := sub_1e5 y1 y2
  generalize (100000 - cx) = dx at *
  generalize (100000 - cy) = dy at *
  refine ok_br.mpr ⟨fun h1 => ok_br.mpr ⟨fun h2 => cmp_z _ _ (fun z => z), fun h2 => cmp_z _ _ (fun z => ?_)⟩, fun h1 => ok_br.mpr ⟨fun h2 => cmp_z _ _ (fun z => ?_), fun h2 => cmp_z _ _ (fun z => ?_)⟩⟩
  · have := congrArg Int64.toInt z
    have q2 : ¬ 0 ≤ cy.toInt := fun q => of_decide_eq_false h2 ((lgc_ge cy).mpr q)
    omega
  · have := congrArg Int64.toInt z
    have q2 : ¬ 0 ≤ cx.toInt := fun q => of_decide_eq_false h1 ((lgc_ge cx).mpr q)
    omega
  · have := congrArg Int64.toInt z
    exact Int64.toInt_inj.mp (by omega)
section
variable {n p N f : Nat} {ow kd : Nat → Nat} {Fv : Int64 → Int64 → Prop} {P : Int64 → Prop} {u : MS}
theorem oa_loop {a b na nb : Nat} (hat : ATM u) (ha : (a : Int) < F u 14) (hb : (b : Int) < F u 14) (h1 : A u 13 a + na ≤ 5000) (h2 : A u 13 b + nb ≤ 5000) : ∀ (m k : Nat), k ≤ na → na - k < m → OK (fun w _ => w = u) (gg_M_orderAtoms N m u (I a) (I b) (I na) (I nb) (I k)) := by
  obtain ⟨t1, t2, t3⟩ := hat
  have q1 := t3 a ha
  have q2 := t3 b hb
  intro m
  induction m with
  | zero => intro k _ z; exact absurd z (Nat.not_lt_zero _)
  | succ m ih =>
    intro k hk hm
    show OK _ (fb_M_orderAtoms_36 N (gg_M_orderAtoms N m) u (I a) (I b) (I na) (I nb) (I k))
    have fin : OK (fun w _ => w = u) (fb_M_orderAtoms_102 N (gg_M_orderAtoms N m) u (I na) (I nb)) := by
      unfold fb_M_orderAtoms_102
      obtain ⟨r, -, -, e, -⟩ := cmp_e (N := N) (u := u) (a := (I na).toInt64) (b := (I nb).toInt64)
      rw [e, bnd_so]
      exact ok_some.mpr rfl
    unfold fb_M_orderAtoms_36
    rw [decI (by omega) (by omega) (by omega) (by omega), decI (by omega) (by omega) (by omega) (by omega)]
    by_cases e1 : na ≤ k
    · rw [decide_eq_true (by omega), br_tq]; exact fin
    rw [decide_eq_false (by omega), br_fq]
    by_cases e2 : nb ≤ k
    · rw [decide_eq_true (by omega), br_tq]; exact fin
    rw [decide_eq_false (by omega), br_fq, inb_at (k := 13) (n := 2200) rfl (by omega) (by omega) (by decide), ck_t, I_tn (by omega) (by omega), Int.toNat_natCast, I_A (i := a), I_add, inb_at (k := 12) (n := 5000) rfl (by omega) (by omega) (by decide), ck_t, inb_at (k := 13) (n := 2200) rfl (by omega) (by omega) (by decide), ck_t, I_tn (x := (b : Int)) (by omega) (by omega), Int.toNat_natCast, I_A (i := b), I_add, inb_at (k := 12) (n := 5000) rfl (by omega) (by omega) (by decide), ck_t, lt_e]
    refine ok_br.mpr ⟨fun _ => ?_, fun _ => ok_br.mpr ⟨fun _ => ok_some.mpr rfl, fun _ => ok_some.mpr rfl⟩⟩
    rw [lit1q, I_add]
    exact ih (k + 1) (by omega) (by omega)
theorem orderAtoms_ok {a b : Nat} (hat : ATM u) (ha : (a : Int) < F u 14) (hb : (b : Int) < F u 14) (hN : 5100 ≤ N) : OK (fun w _ => w = u) (fm_M_orderAtoms N u (I a) (I b)) := by
  have hat' := hat
  obtain ⟨t1, t2, t3⟩ := hat
  obtain ⟨a1, a2, a3⟩ := t3 a ha
  obtain ⟨b1, b2, b3⟩ := t3 b hb
  unfold fm_M_orderAtoms fb_M_orderAtoms_0
  rw [lit1q, I_add, I_add, inb_at (k := 13) (n := 2200) rfl (by omega) (by omega) (by decide), ck_t, inb_at (k := 13) (n := 2200) rfl (by omega) (by omega) (by decide), ck_t, lt_e, inb_at (k := 13) (n := 2200) rfl (by omega) (by omega) (by decide), ck_t, inb_at (k := 13) (n := 2200) rfl (by omega) (by omega) (by decide), ck_t, lt_e, I_tn (by omega) (by omega), I_tn (by omega) (by omega), I_tn (by omega) (by omega), I_tn (by omega) (by omega), Int.toNat_natCast, Int.toNat_natCast, show ((a : Int) + 1).toNat = a + 1 from by omega, show ((b : Int) + 1).toNat = b + 1 from by omega, I_A (i := a + 1), I_A (i := a), I_A (i := b + 1), I_A (i := b), I_sub, I_sub, lit0q]
  have := oa_loop (N := N) (na := (A u 13 (a + 1) - A u 13 a).toNat) (nb := (A u 13 (b + 1) - A u 13 b).toNat) hat' ha hb (by omega) (by omega) N 0 (by omega) (by omega)
  rw [show (((A u 13 (a + 1) - A u 13 a).toNat : Nat) : Int) = A u 13 (a + 1) - A u 13 a from by omega, show (((A u 13 (b + 1) - A u 13 b).toNat : Nat) : Int) = A u 13 (b + 1) - A u 13 b from by omega] at this
  exact this
theorem gt_pa (hP : ∀ t, P t → PA u t) {t : Int64} (g : GT n ow kd P t) (e : so t = 1) : 0 ≤ va t ∧ va t < F u 14 := by
  rcases g with ⟨-, z⟩ | ⟨z, -⟩
  · exact hP t z e
  · unfold isH at z; omega
theorem orderOne_ok {x y : Int64} (g : HP (hp u p) n ow kd Fv P) (hn : n ≤ 500) (hp1 : p < 24) (hme : F u 133 = p) (hF : FVH Fv) (hat : ATM u) (hP : ∀ t, P t → PA u t) (gx : GT n ow kd P x) (gy : GT n ow kd P y) (hN : 5100 ≤ N) : OK (fun w r => w = u ∧ (r = 0 → isH x → so y = so x ∧ blk (hp u p) y = blk (hp u p) x)) (fm_M_orderOne N u x y) := by
  have rx := so_r x
  have ry := so_r y
  have lc : ∀ (a b : Int64) (Q : Int32 → Prop), (∀ r : Int, -1 ≤ r → r ≤ 1 → (r = 0 → a = b) → Q (I r)) → OK (fun w r => w = u ∧ Q r) (fm_M_compare N u a b) := fun a b Q h => by
    obtain ⟨r, r1, r2, e, r3⟩ := cmp_e (N := N) (u := u) (a := a) (b := b)
    rw [e]
    exact ok_some.mpr ⟨rfl, h r r1 r2 r3⟩
  have I0 : ∀ r : Int, -1 ≤ r → r ≤ 1 → I r = 0 → r = 0 := fun r h1 h2 e => (I_eq (y := 0) (by omega) (by omega) (by omega) (by omega)).mp e
  unfold fm_M_orderOne fb_M_orderOne_0
  rw [sortOf_e, bnd_so, sortOf_e, bnd_so, decE rx.1 rx.2 ry.1 ry.2]
  by_cases es : so x = so y
  · rw [decide_eq_true es, br_tq, valueOf_e, bnd_so, valueOf_e, bnd_so, lit1q, show (5 : Int32) = I 5 from rfl, show (3 : Int32) = I 3 from rfl, show (7 : Int32) = I 7 from rfl, show (6 : Int32) = I 6 from rfl, decE rx.1 rx.2 (by omega) (by omega), decE rx.1 rx.2 (by omega) (by omega), decE rx.1 rx.2 (by omega) (by omega), decE rx.1 rx.2 (by omega) (by omega), decE rx.1 rx.2 (by omega) (by omega)]
    by_cases e1 : so x = 1
    · rw [decide_eq_true e1, br_tq]
      have nx : ¬ isH x := by unfold isH; omega
      obtain ⟨a1, a2⟩ := gt_pa hP gx e1
      obtain ⟨b1, b2⟩ := gt_pa hP gy (es ▸ e1)
      have ea : va x = ((va x).toNat : Int) := by omega
      have eb : va y = ((va y).toNat : Int) := by omega
      rw [ea, eb]
      exact ok_bnd.mpr (ok_mono (orderAtoms_ok hat (by omega) (by omega) hN) (fun w r h => ok_some.mpr ⟨h, fun _ z => absurd z nx⟩))
    rw [decide_eq_false e1, br_fq]
    by_cases e5 : so x = 5
    · rw [decide_eq_true e5, br_tq]
      have hx : isH x := Or.inr (Or.inl e5)
      have hy : isH y := Or.inr (Or.inl (es ▸ e5))
      obtain ⟨bx, -⟩ := HP_bk g hx gx
      obtain ⟨by', -⟩ := HP_bk g hy gy
      have px := blk_pos (h := hp u p) hx
      have py := blk_pos (h := hp u p) hy
      have n1 := bx.2.2.2.1
      have n2 := by'.2.2.2.1
      have vx : va x = (vn x : Int) := by have := bx.1; unfold vn; omega
      have vy : va y = (vn y : Int) := by have := by'.1; unfold vn; omega
      rw [I_F' hme, vx, vy, cell_e (by omega) (by omega), bnd_so, I_F' hme, cell_e (by omega) (by omega), bnd_so]
      refine ok_bnd.mpr (ok_mono (lc _ _ (fun r => r = 0 → hp u p (vn x) = hp u p (vn y)) (fun r r1 r2 r3 z => r3 (I0 r r1 r2 z))) (fun w r h => ok_some.mpr ⟨h.1, fun z _ => ⟨es.symm, ?_⟩⟩))
      unfold blk
      rw [← es, e5, h.2 z]
      simp
    rw [decide_eq_false e5, br_fq]
    by_cases e3 : so x = 3
    · rw [decide_eq_true e3, br_tq]
      have hx : isH x := Or.inl e3
      have hy : isH y := Or.inl (es ▸ e3)
      obtain ⟨bx, -⟩ := HP_bk g hx gx
      obtain ⟨by', -⟩ := HP_bk g hy gy
      have px := blk_2 (h := hp u p) e3
      have py := blk_2 (h := hp u p) (es ▸ e3 : so y = 3)
      have n1 := bx.2.2.2.1
      have n2 := by'.2.2.2.1
      have vx : va x = (vn x : Int) := by have := bx.1; unfold vn; omega
      have vy : va y = (vn y : Int) := by have := by'.1; unfold vn; omega
      rw [I_F' hme, vx, vy, cell_e (by omega) (by omega), bnd_so, I_F' hme, cell_e (by omega) (by omega), bnd_so]
      have fx := (bx.2.2.1 e3).2
      have fy := (by'.2.2.1 (es ▸ e3)).2
      generalize hp u p (vn x) = cx at fx ⊢
      generalize hcy : hp u p (vn y) = cy at fy ⊢
      obtain ⟨x1, x2⟩ := hF.1 _ _ fx
      obtain ⟨y1, y2⟩ := hF.1 _ _ fy
      have fin : cx = cy → so y = so x ∧ blk (hp u p) y = blk (hp u p) x := fun z => by
        subst z
        have := hF.2 _ _ _ fx fy
        refine ⟨es.symm, ?_⟩
        unfold blk
        rw [← es, e3]
        simp
        unfold vn at this ⊢
        unfold vn at *
        rw [this]
      have fun128 := one128 (N := N) (u := u) x1 x2 y1 y2
      refine ok_br.mpr ⟨fun h1 => ?_, fun h1 => ok_br.mpr ⟨fun h2 => ?_, fun h2 => ?_⟩⟩
      · exact ok_mono fun128 (fun w r h => ⟨h.1, fun z _ => fin (h.2 z)⟩)
      · unfold fb_M_orderOne_177
        exact ok_bnd.mpr (ok_mono (lc cx cy (fun r => r = 0 → cx = cy) (fun r r1 r2 r3 z => r3 (I0 r r1 r2 z))) (fun w r q => ok_some.mpr ⟨q.1, fun z _ => fin (q.2 z)⟩))
      · exact ok_mono fun128 (fun w r h => ⟨h.1, fun z _ => fin (h.2 z)⟩)
    rw [decide_eq_false e3, br_fq]
    by_cases e7 : so x = 7
    · rw [decide_eq_true e7, br_tq]
      unfold fb_M_orderOne_192 fb_M_orderOne_205
      refine ok_some.mpr ⟨rfl, fun _ _ => ⟨es.symm, ?_⟩⟩
      unfold blk
      rw [← es, e7]
      simp
    rw [decide_eq_false e7, br_fq]
    have nx : ¬ isH x := by unfold isH; omega
    refine ok_br.mpr ⟨fun _ => ok_some.mpr ⟨rfl, fun _ z => absurd z nx⟩, fun _ => ?_⟩
    unfold fb_M_orderOne_205
    exact ok_bnd.mpr (ok_mono (lc _ _ (fun _ => True) (fun _ _ _ _ => trivial)) (fun w r q => ok_some.mpr ⟨q.1, fun _ z => absurd z nx⟩))
  · rw [decide_eq_false es, br_fq, sortOf_e, bnd_so]
    refine ok_bnd.mpr (ok_mono (lc _ _ (fun r => r ≠ 0) (fun r r1 r2 r3 z => es ?_)) (fun w r q => ok_some.mpr ⟨q.1, fun z _ => absurd z q.2⟩))
    have := r3 (I0 r r1 r2 z)
    have := congrArg Int64.toInt this
    rw [Int32.toInt_toInt64, Int32.toInt_toInt64, I_ti rx.1 rx.2, I_ti ry.1 ry.2] at this
    exact this
end
