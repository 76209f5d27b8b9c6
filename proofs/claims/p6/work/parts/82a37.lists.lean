def LST (h : Nat → Int64) : Nat → Int64 → Int64 → Prop
  | 0, x, t => x = t
  | k + 1, x, t => so x = 7 ∧ LST h k (h (vn x + 1)) t
section
variable {Fv : Int64 → Int64 → Prop} {P : Int64 → Prop} {w w2 : MS} {PR N p n opM bnM bxM : Nat} {ow kd : Nat → Nat}
theorem LST_gt {h : Nat → Int64} (g : HP h n ow kd Fv P) : ∀ (k : Nat) (x t : Int64), GT n ow kd P x → LST h k x t → GT n ow kd P t
  | 0, x, t, gx, l => by rw [← show x = t from l]; exact gx
  | k + 1, x, t, gx, l => by
    obtain ⟨l1, l2⟩ := l
    have hx : isH x := Or.inr (Or.inr l1)
    have bb : blk h x = 2 := by unfold blk; rw [l1]; rfl
    have pp : prt x = 0 := by unfold prt; rw [l1]; rfl
    exact LST_gt g k _ t ((HP_bk g hx gx).2 1 (by omega) (by omega)) l2
theorem LST_hom {h h2 : Nat → Int64} {n2 : Nat} {ow2 kd2 : Nat → Nat} {fd : Int64 → Int64} {R : Int64 → Prop} (m : HOM h n ow kd h2 n2 ow2 kd2 P fd R) : ∀ (k : Nat) (x t : Int64), (isH x → R x) → LST h k x t → LST h2 k (fd x) (fd t)
  | 0, x, t, _, l => by show fd x = fd t; rw [show x = t from l]
  | k + 1, x, t, r, l => by
    obtain ⟨l1, l2⟩ := l
    have hx : isH x := Or.inr (Or.inr l1)
    have bb : blk h x = 2 := by unfold blk; rw [l1]; rfl
    have pp : prt x = 0 := by unfold prt; rw [l1]; rfl
    obtain ⟨-, a2, -, -, -, a6⟩ := m.2 x hx (r hx)
    obtain ⟨e1, e2⟩ := a6 1 (by omega) (by omega)
    exact ⟨by rw [a2]; exact l1, by rw [e1]; exact LST_hom m k _ t e2 l2⟩
theorem len_loop (i : MEI Fv P PR w p n ow kd opM bnM bxM) {x0 : Int64} : ∀ (s f : Nat) (m k : Nat) (x : Int64), SZ (hp w p) n ow kd Fv P f x s → s < m → 2 * k + s ≤ 1000 → (∀ j t, LST (hp w p) j x t → LST (hp w p) (k + j) x0 t) → OK (fun w2 r => w2 = w ∧ (r = I (-1) ∨ ∃ (c : Nat) (t : Int64), r = I c ∧ LST (hp w p) c x0 t ∧ so t = 6 ∧ c ≤ 500)) (gg_M_lengthOf N m w x (I k)) := by
  have x4 := MEI_p i
  have x3 := i.2.2.2.2.2.2.2.1
  intro s
  induction s using Nat.strongRecOn with
  | _ s ih =>
    intro f m k x z hm hk hl
    obtain ⟨m', rfl⟩ : ∃ m', m = m' + 1 := ⟨m - 1, by omega⟩
    have rx := so_r x
    show OK _ (fb_M_lengthOf_5 N (gg_M_lengthOf N m') w x (I k))
    unfold fb_M_lengthOf_5 fb_M_lengthOf_50
    rw [sortOf_e, bnd_so, show (7 : Int32) = I 7 from rfl, show (6 : Int32) = I 6 from rfl, decE rx.1 rx.2 (by omega) (by omega)]
    by_cases e7 : so x = 7
    · have hx : isH x := Or.inr (Or.inr e7)
      obtain ⟨f', hf'⟩ : ∃ f', f = f' + 1 := by cases f with | zero => exact z.elim | succ f' => exact ⟨f', rfl⟩
      subst hf'
      rcases z with ⟨z1, -⟩ | ⟨-, b, c, z3, z4⟩
      · exact absurd hx z1
      have bb : blk (hp w p) x = 2 := by unfold blk; rw [e7]; rfl
      have pp : prt x = 0 := by unfold prt; rw [e7]; rfl
      rw [bb, pp] at z3 z4
      have zs : s = 2 + (c 0 + c 1) := by rw [z4]; show 2 + (0 + c (0 + 0) + c (0 + 1)) = _; simp
      have bn := b.2.2.2.1
      have vx : va x = (vn x : Int) := by have := b.1; unfold vn; omega
      rw [decide_eq_true e7, br_tq, valueOf_e, bnd_so, I_F' i.2.2.1, vx, lit1q, I_add, I_add, show (vn x : Int) + 1 = ((vn x + 1 : Nat) : Int) from by omega, cell_e (by omega) (by omega), bnd_so]
      exact ih (c 1) (by omega) f' m' (k + 1) _ (z3 1 (by omega) (by omega)) (by omega) (by omega) (fun j t l => by
        have := hl (j + 1) t ⟨e7, l⟩
        rw [show k + 1 + j = k + (j + 1) from by omega]; exact this)
    · rw [decide_eq_false e7, br_fq, sortOf_e, bnd_so, decE rx.1 rx.2 (by omega) (by omega)]
      by_cases e6 : so x = 6
      · rw [decide_eq_true e6, br_tq]
        exact ok_some.mpr ⟨rfl, Or.inr ⟨k, x, rfl, by have := hl 0 x rfl; exact this, e6, by omega⟩⟩
      · rw [decide_eq_false e6, br_fq]
        exact ok_some.mpr ⟨rfl, Or.inl rfl⟩
theorem lengthOf_ok {x : Int64} (i : MEI Fv P PR w p n ow kd opM bnM bxM) (gx : GT n ow kd P x) (hN : 2000 ≤ N) : OK (fun w2 r => w2 = w ∧ (r = I (-1) ∨ ∃ (c : Nat) (t : Int64), r = I c ∧ LST (hp w p) c x t ∧ so t = 6 ∧ c ≤ 500)) (fm_M_lengthOf N w x) := by
  have g := i.2.2.2.2.2.2.1
  have x3 := i.2.2.2.2.2.2.2.1
  obtain ⟨f, s, z⟩ := HP_sz g gx
  have hs := SZ_1000 g x3 z
  unfold fm_M_lengthOf fb_M_lengthOf_0
  rw [lit0q]
  exact len_loop i s f N 0 x z (by omega) (by omega) (fun j t l => by rw [Nat.zero_add]; exact l)
theorem write_ok {o : Nat} {t : Int64} {m : Nat} {ow2 kd2 : Nat → Nat} (ho : o < 25) (hm : m ≤ 500) (g : HP (hp w o) m ow2 kd2 Fv P) (hat : ATM w) (hP : ∀ t, P t → PA w t) (hS : PS P) (ht : GT m ow2 kd2 P t) (hN : 11000000 ≤ N) : OK (fun w2 _ => FR [144] [] [143] [141] w w2 ∧ 0 ≤ F w2 144 ∧ F w2 144 ≤ 100) (fm_M_write N w (I o) t) := by
  unfold fm_M_write fb_M_write_0 fb_M_write_30
  rw [lit0q, lt_e, wi_e]
  have f0 : FR [144] [] [143] [141] w (wi w 144 0) := FR.wi FR.rf (by decide)
  have z0 : F (wi w 144 0) 144 = 0 := by rw [F_wi (by omega) (by omega), if_pos rfl]
  refine ok_bnd.mpr (ok_mono (writeOn_ok (B := 6000) (u0 := wi w 144 0) (by omega) ho hm g (ATM_fr hat f0 (by decide) (by decide)) (PA_fr hP f0 (by decide)) hS ht (by omega) (by omega) hN) (fun v _ h => ?_))
  obtain ⟨h1, h2, h3⟩ := h
  rw [I_F, lit100, decI (by omega) (by omega) (by omega) (by omega)]
  by_cases e : F v 144 ≤ 100
  · rw [decide_eq_true e, br_tq, lt_e, wi_e]
    exact ok_some.mpr ⟨FR.wi (FR.tr f0 h1) (by decide), by rw [F_wi (by omega) (by omega), if_pos rfl]; exact h2, by rw [F_wi (by omega) (by omega), if_pos rfl]; exact e⟩
  · rw [decide_eq_false e, br_fq, lt_e, wi_e]
    exact ok_some.mpr ⟨FR.wi (FR.tr f0 h1) (by decide), by rw [F_wi (by omega) (by omega), if_pos rfl]; omega, by rw [F_wi (by omega) (by omega), if_pos rfl]; omega⟩
theorem pr_loop {L O : Nat} (hL : L ≤ 100) (hO : O < 200) : ∀ (m k : Nat) (w : MS), k ≤ L → L - k < m → F w 144 = L → F w 128 = O → OK (fun w2 _ => FR [128] [] [126, 127] [] w w2 ∧ F w2 128 = (O : Int) + 1 ∧ ∀ i, A w2 127 i = if i = O then (L : Int) else A w 127 i) (gg_M_printRun N m w (I k)) := by
  intro m
  induction m with
  | zero => intro k w _ z; exact absurd z (Nat.not_lt_zero _)
  | succ m ih =>
    intro k w hk hm f1 f2
    show OK _ (fb_M_printRun_21 N (gg_M_printRun N m) w (I k))
    unfold fb_M_printRun_21 fb_M_printRun_78
    rw [I_F' f1, decI (by omega) (by omega) (by omega) (by omega), I_F' f2]
    by_cases e : L ≤ k
    · rw [decide_eq_true (by omega), br_tq, inb_at (k := 127) (n := 200) rfl (by omega) (by omega) (by decide), ck_t, lt_e, I_tn (by omega) (by omega), Int.toNat_natCast, wa_e, lt_e, show (wa w 127 O L).1 128 = I O from I_F' f2, lit1q, I_add, wi_e]
      exact ok_some.mpr ⟨FR.wi (FR.wa FR.rf (by decide)) (by decide), by rw [F_wi (by omega) (by omega), if_pos rfl], fun i => by rw [A_wi, A_eq (by omega) (by omega)]⟩
    · rw [decide_eq_false (by omega), br_fq, inb_at (k := 143) (n := 100) rfl (by omega) (by omega) (by decide), ck_t, lit100, I_mul, I_add, inb_at (k := 126) (n := 20000) rfl (by omega) (by omega) (by decide), ck_t, lt_e]
      generalize vp_nar .byte (w.2.2.1 143 (I (k : Int)).toNatClampNeg) = b
      rw [I_of b, I_tn (by omega) (by omega), wa_e, lit1q, I_add]
      refine ok_mono (ih (k + 1) _ (by omega) (by omega) f1 f2) (fun w2 _ h => ⟨FR.tr (FR.wa FR.rf (by decide)) h.1, h.2.1, fun i => ?_⟩)
      rw [h.2.2 i, A_ne (by decide)]
theorem printRun_ok {t : Int64} (i : MEI Fv P PR w p n ow kd opM bnM bxM) (hat : ATM w) (hP : ∀ t, P t → PA w t) (hS : PS P) (gt : GT n ow kd P t) (hO : 0 ≤ F w 128 ∧ F w 128 ≤ 200) (hN : 11000000 ≤ N) : OK (fun w2 _ => FR [128, 144] [] [126, 127, 143] [141] w w2 ∧ 0 ≤ F w2 128 ∧ F w2 128 ≤ 200 ∧ (∀ j, A w2 127 j = A w 127 j ∨ (0 ≤ A w2 127 j ∧ A w2 127 j ≤ 100))) (fm_M_printRun N w t) := by
  have x4 := MEI_p i
  have g := i.2.2.2.2.2.2.1
  have x3 := i.2.2.2.2.2.2.2.1
  unfold fm_M_printRun fb_M_printRun_0 fb_M_printRun_78
  rw [I_F (k := 128), show (200 : Int32) = I 200 from rfl, decI (by omega) (by omega) (by omega) (by omega)]
  by_cases e : 200 ≤ F w 128
  · rw [decide_eq_true e, br_tq]
    exact ok_some.mpr ⟨FR.rf, hO.1, hO.2, fun _ => Or.inl rfl⟩
  · rw [decide_eq_false e, br_fq, I_F' i.2.2.1]
    refine ok_bnd.mpr (ok_mono (write_ok (N := N) (show p < 25 by omega) x3 g hat hP hS gt hN) (fun v _ h => ?_))
    obtain ⟨h1, h2, h3⟩ := h
    have e128 : F v 128 = F w 128 := FR.F h1 (by decide)
    rw [lit0q]
    refine ok_mono (pr_loop (L := (F v 144).toNat) (O := (F w 128).toNat) (by omega) (by omega) N 0 v (Nat.zero_le _) (by omega) (by omega) (by omega)) (fun w2 _ q => ⟨FR.tr (FR.mo h1 (by decide) (by decide) (by decide) (by decide)) (FR.mo q.1 (by decide) (by decide) (by decide) (by decide)), by have := q.2.1; omega, by have := q.2.1; omega, fun j => ?_⟩)
    rw [q.2.2 j]
    split
    · exact Or.inr ⟨by omega, by omega⟩
    · exact Or.inl (FR.A h1 (by decide))
end
