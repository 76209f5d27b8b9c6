section
def LST (h : Nat → Int64) : Nat → Int64 → Int64 → Prop
  | 0, x, t => x = t
  | k + 1, x, t => so x = 7 ∧ LST h k (h (vn x + 1)) t
section
variable {Fv : Int64 → Int64 → Prop} {P : Int64 → Prop} {w w2 : MS} {PR N p n opM bnM bxM : Nat} {ow kd : Nat → Nat}
theorem LST_gt {h : Nat → Int64} (g : HP h n ow kd Fv P) : ∀ (k : Nat) (x t : Int64), GT n ow kd P x → LST h k x t → GT n ow kd P t
  | 0, x, t, gx, l => by rw [← show x = t from l]; exact gx
  | k + 1, x, t, gx, l => by
    obtain ⟨l1, l2⟩ := l
    have hx : isH x := Or.inr (Or.inr l1)
    have bb : blk h x = 2 := by unfold blk; rw [l1]; rfl
    have pp : prt x = 0 := by unfold prt; rw [l1]; rfl
    exact LST_gt g k _ t ((HP_bk g hx gx).2 1 (by omega) (by omega)) l2
theorem LST_hom {h h2 : Nat → Int64} {n2 : Nat} {ow2 kd2 : Nat → Nat} {fd : Int64 → Int64} {R : Int64 → Prop} (m : HOM h n ow kd h2 n2 ow2 kd2 P fd R) : ∀ (k : Nat) (x t : Int64), (isH x → R x) → LST h k x t → LST h2 k (fd x) (fd t)
  | 0, x, t, _, l => by show fd x = fd t; rw [show x = t from l]
  | k + 1, x, t, r, l => by
    obtain ⟨l1, l2⟩ := l
    have hx : isH x := Or.inr (Or.inr l1)
    have bb : blk h x = 2 := by unfold blk; rw [l1]; rfl
    have pp : prt x = 0 := by unfold prt; rw [l1]; rfl
    obtain ⟨-, a2, -, -, -, a6⟩ := m.2 x hx (r hx)
    obtain ⟨e1, e2⟩ := a6 1 (by omega) (by omega)
    exact ⟨by rw [a2]; exact l1, by rw [e1]; exact LST_hom m k _ t e2 l2⟩
theorem len_loop (i : MEI Fv P PR w p n ow kd opM bnM bxM) {x0 : Int64} : ∀ (s f : Nat) (m k : Nat) (x : Int64), SZ (hp w p) n ow kd Fv P f x s → s < m → 2 * k + s ≤ 1000 → (∀ j t, LST (hp w p) j x t → LST (hp w p) (k + j) x0 t) → OK (fun w2 r => w2 = w ∧ (r = I (-1) ∨ ∃ (c : Nat) (t : Int64), r = I c ∧ LST (hp w p) c x0 t ∧ so t = 6 ∧ c ≤ 500)) (gg_M_lengthOf N m w x (I k)) := by
  have x4 := MEI_p i
  have x3 := i.2.2.2.2.2.2.2.1
  intro s
  induction s using Nat.strongRecOn with
  | _ s ih =>
    intro f m k x z hm hk hl
    obtain ⟨m', rfl⟩ : ∃ m', m = m' + 1 := ⟨m - 1, by omega⟩
    have rx := so_r x
    show OK _ (fb_M_lengthOf_5 N (gg_M_lengthOf N m') w x (I k))
    unfold fb_M_lengthOf_5 fb_M_lengthOf_50
    rw [sortOf_e, bnd_so, show (7 : Int32) = I 7 from rfl, show (6 : Int32) = I 6 from rfl, decE rx.1 rx.2 (by omega) (by omega)]
    by_cases e7 : so x = 7
    · have hx : isH x := Or.inr (Or.inr e7)
      obtain ⟨f', hf'⟩ : ∃ f', f = f' + 1 := by cases f with | zero => exact z.elim | succ f' => exact ⟨f', rfl⟩
      subst hf'
      rcases z with ⟨z1, -⟩ | ⟨-, b, c, z3, z4⟩
      · exact absurd hx z1
      have bb : blk (hp w p) x = 2 := by unfold blk; rw [e7]; rfl
      have pp : prt x = 0 := by unfold prt; rw [e7]; rfl
      rw [bb, pp] at z3 z4
      have zs : s = 2 + (c 0 + c 1) := by rw [z4]; show 2 + (0 + c (0 + 0) + c (0 + 1)) = _; simp
      have bn := b.2.2.2.1
      have vx : va x = (vn x : Int) := by have := b.1; unfold vn; omega
      rw [decide_eq_true e7, br_tq, valueOf_e, bnd_so, I_F' i.2.2.1, vx, lit1q, I_add, I_add, show (vn x : Int) + 1 = ((vn x + 1 : Nat) : Int) from by omega, cell_e (by omega) (by omega), bnd_so]
      exact ih (c 1) (by omega) f' m' (k + 1) _ (z3 1 (by omega) (by omega)) (by omega) (by omega) (fun j t l => by
        have := hl (j + 1) t ⟨e7, l⟩
        rw [show k + 1 + j = k + (j + 1) from by omega]; exact this)
    · rw [decide_eq_false e7, br_fq, sortOf_e, bnd_so, decE rx.1 rx.2 (by omega) (by omega)]
      by_cases e6 : so x = 6
      · rw [decide_eq_true e6, br_tq]
        exact ok_some.mpr ⟨rfl, Or.inr ⟨k, x, rfl, by have := hl 0 x rfl; exact this, e6, by omega⟩⟩
      · rw [decide_eq_false e6, br_fq]
        exact ok_some.mpr ⟨rfl, Or.inl rfl⟩
theorem lengthOf_ok {x : Int64} (i : MEI Fv P PR w p n ow kd opM bnM bxM) (gx : GT n ow kd P x) (hN : 2000 ≤ N) : OK (fun w2 r => w2 = w ∧ (r = I (-1) ∨ ∃ (c : Nat) (t : Int64), r = I c ∧ LST (hp w p) c x t ∧ so t = 6 ∧ c ≤ 500)) (fm_M_lengthOf N w x) := by
  have g := i.2.2.2.2.2.2.1
  have x3 := i.2.2.2.2.2.2.2.1
  obtain ⟨f, s, z⟩ := HP_sz g gx
  have hs := SZ_1000 g x3 z
  unfold fm_M_lengthOf fb_M_lengthOf_0
  rw [lit0q]
  exact len_loop i s f N 0 x z (by omega) (by omega) (fun j t l => by rw [Nat.zero_add]; exact l)
theorem write_ok {o : Nat} {t : Int64} {m : Nat} {ow2 kd2 : Nat → Nat} (ho : o < 25) (hm : m ≤ 500) (g : HP (hp w o) m ow2 kd2 Fv P) (hat : ATM w) (hP : ∀ t, P t → PA w t) (hS : PS P) (ht : GT m ow2 kd2 P t) (hN : 11000000 ≤ N) : OK (fun w2 _ => FR [144] [] [143] [141] w w2 ∧ 0 ≤ F w2 144 ∧ F w2 144 ≤ 100) (fm_M_write N w (I o) t) := by
  unfold fm_M_write fb_M_write_0 fb_M_write_30
  rw [lit0q, lt_e, wi_e]
  have f0 : FR [144] [] [143] [141] w (wi w 144 0) := FR.wi FR.rf (by decide)
  have z0 : F (wi w 144 0) 144 = 0 := by rw [F_wi (by omega) (by omega), if_pos rfl]
  refine ok_bnd.mpr (ok_mono (writeOn_ok (B := 6000) (u0 := wi w 144 0) (by omega) ho hm g (ATM_fr hat f0 (by decide) (by decide)) (PA_fr hP f0 (by decide)) hS ht (by omega) (by omega) hN) (fun v _ h => ?_))
  obtain ⟨h1, h2, h3⟩ := h
  rw [I_F, lit100, decI (by omega) (by omega) (by omega) (by omega)]
  by_cases e : F v 144 ≤ 100
  · rw [decide_eq_true e, br_tq, lt_e, wi_e]
    exact ok_some.mpr ⟨FR.wi (FR.tr f0 h1) (by decide), by rw [F_wi (by omega) (by omega), if_pos rfl]; exact h2, by rw [F_wi (by omega) (by omega), if_pos rfl]; exact e⟩
  · rw [decide_eq_false e, br_fq, lt_e, wi_e]
    exact ok_some.mpr ⟨FR.wi (FR.tr f0 h1) (by decide), by rw [F_wi (by omega) (by omega), if_pos rfl]; omega, by rw [F_wi (by omega) (by omega), if_pos rfl]; omega⟩
theorem pr_loop {L O : Nat} (hL : L ≤ 100) (hO : O < 200) : ∀ (m k : Nat) (w : MS), k ≤ L → L - k < m → F w 144 = L → F w 128 = O → OK (fun w2 _ => FR [128] [] [126, 127] [] w w2 ∧ F w2 128 = (O : Int) + 1 ∧ ∀ i, A w2 127 i = if i = O then (L : Int) else A w 127 i) (gg_M_printRun N m w (I k)) := by
  intro m
  induction m with
  | zero => intro k w _ z; exact absurd z (Nat.not_lt_zero _)
  | succ m ih =>
    intro k w hk hm f1 f2
    show OK _ (fb_M_printRun_21 N (gg_M_printRun N m) w (I k))
    unfold fb_M_printRun_21 fb_M_printRun_78
    rw [I_F' f1, decI (by omega) (by omega) (by omega) (by omega), I_F' f2]
    by_cases e : L ≤ k
    · rw [decide_eq_true (by omega), br_tq, inb_at (k := 127) (n := 200) rfl (by omega) (by omega) (by decide), ck_t, lt_e, I_tn (by omega) (by omega), Int.toNat_natCast, wa_e, lt_e, show (wa w 127 O L).1 128 = I O from I_F' f2, lit1q, I_add, wi_e]
      exact ok_some.mpr ⟨FR.wi (FR.wa FR.rf (by decide)) (by decide), by rw [F_wi (by omega) (by omega), if_pos rfl], fun i => by rw [A_wi, A_eq (by omega) (by omega)]⟩
    · rw [decide_eq_false (by omega), br_fq, inb_at (k := 143) (n := 100) rfl (by omega) (by omega) (by decide), ck_t, lit100, I_mul, I_add, inb_at (k := 126) (n := 20000) rfl (by omega) (by omega) (by decide), ck_t, lt_e]
      generalize vp_nar .byte (w.2.2.1 143 (I (k : Int)).toNatClampNeg) = b
      rw [I_of b, I_tn (by omega) (by omega), wa_e, lit1q, I_add]
      refine ok_mono (ih (k + 1) _ (by omega) (by omega) f1 f2) (fun w2 _ h => ⟨FR.tr (FR.wa FR.rf (by decide)) h.1, h.2.1, fun i => ?_⟩)
      rw [h.2.2 i, A_ne (by decide)]
theorem printRun_ok {t : Int64} (i : MEI Fv P PR w p n ow kd opM bnM bxM) (hat : ATM w) (hP : ∀ t, P t → PA w t) (hS : PS P) (gt : GT n ow kd P t) (hO : 0 ≤ F w 128 ∧ F w 128 ≤ 200) (hN : 11000000 ≤ N) : OK (fun w2 _ => FR [128, 144] [] [126, 127, 143] [141] w w2 ∧ 0 ≤ F w2 128 ∧ F w2 128 ≤ 200 ∧ (∀ j, A w2 127 j = A w 127 j ∨ (0 ≤ A w2 127 j ∧ A w2 127 j ≤ 100))) (fm_M_printRun N w t) := by
  have x4 := MEI_p i
  have g := i.2.2.2.2.2.2.1
  have x3 := i.2.2.2.2.2.2.2.1
  unfold fm_M_printRun fb_M_printRun_0 fb_M_printRun_78
  rw [I_F (k := 128), show (200 : Int32) = I 200 from rfl, decI (by omega) (by omega) (by omega) (by omega)]
  by_cases e : 200 ≤ F w 128
  · rw [decide_eq_true e, br_tq]
    exact ok_some.mpr ⟨FR.rf, hO.1, hO.2, fun _ => Or.inl rfl⟩
  · rw [decide_eq_false e, br_fq, I_F' i.2.2.1]
    refine ok_bnd.mpr (ok_mono (write_ok (N := N) (show p < 25 by omega) x3 g hat hP hS gt hN) (fun v _ h => ?_))
    obtain ⟨h1, h2, h3⟩ := h
    have e128 : F v 128 = F w 128 := FR.F h1 (by decide)
    rw [lit0q]
    refine ok_mono (pr_loop (L := (F v 144).toNat) (O := (F w 128).toNat) (by omega) (by omega) N 0 v (Nat.zero_le _) (by omega) (by omega) (by omega)) (fun w2 _ q => ⟨FR.tr (FR.mo h1 (by decide) (by decide) (by decide) (by decide)) (FR.mo q.1 (by decide) (by decide) (by decide) (by decide)), by have := q.2.1; omega, by have := q.2.1; omega, fun j => ?_⟩)
    rw [q.2.2 j]
    split
    · exact Or.inr ⟨by omega, by omega⟩
    · exact Or.inl (FR.A h1 (by decide))
end
end
section
def ESZ (Fv : Int64 → Int64 → Prop) (P : Int64 → Prop) (PR : Nat) (w : MS) : Prop := ESI Fv P PR w ∧ F w 149 = 0 ∧ F w 150 = 0
section
variable {Fv : Int64 → Int64 → Prop} {P : Int64 → Prop} {w w2 w0 : MS} {PR N p n opM bnM bxM q : Nat} {ow kd : Nat → Nat}
theorem MQ_wnt {n2 : Nat} {ow2 kd2 : Nat → Nat} {fd : Int64 → Int64} {R : Int64 → Prop} (d : DW Fv P PR w0) (cx : CX w0 q (hp w0 q) n ow kd Fv P opM bnM bxM) (h : WNT w0 q n ow kd Fv P opM bnM bxM w n2 ow2 kd2 fd R) : MQq Fv P w0 w q n2 ow2 kd2 opM bnM bxM := by
  obtain ⟨t1, t2, t3, t4, t5, t6, t7, t8, t9, t10, t11, t12⟩ := h
  obtain ⟨-, -, -, -, x5, x6, x7, -⟩ := cx
  refine ⟨by have := t5 q; rw [if_pos rfl] at this; exact this, t3, FR.mo t6 (by decide) (by decide) (by decide) (by decide), by rw [FR.F t6 (by decide)]; exact d.2.2.2.1, fun p hp3 => by rw [t5, if_neg hp3], t7, fun i hi => RTS_out t8 x5.2 hi, fun i hi => RTS_out t9 x6.2 hi, fun i hi => RTS_out t10 x7.2 hi⟩
def CALLF (u w : MS) : Prop := FR [3, 125, 136, 138, 140, 144, 149, 150] [139] [89, 90, 108, 109, 113, 116, 117, 122, 123, 124, 131, 132, 135, 142, 143, 145, 146, 147] [88, 91, 93, 107, 134, 137, 141, 148] u w ∧ (∀ p, A w 109 p = A u 109 p ∨ A w 109 p = 3) ∧ RLo u w
theorem CALLF.tr {u v : MS} (a : CALLF u v) (b : CALLF v w) : CALLF u w := ⟨FR.tr a.1 b.1, fun p => by
  rcases b.2.1 p with h | h
  · rw [h]; exact a.2.1 p
  · exact Or.inr h, RLo.tr a.2.2 b.2.2⟩
theorem EVF.callf {u : MS} (a : EVF u w) : CALLF u w := ⟨FR.mo a.1 (by decide) (by decide) (by decide) (by decide), a.2, fun i => Or.inl (FR.A a.1 (by decide))⟩
theorem s238 {u : MS} (hPB : PB P PR) (hS : PS P) (hN : 11000000 ≤ N) (hs : ESI Fv P PR w) (hat : ATM w) (hP : ∀ t, P t → PA w t) (hc : CALLF u w) : OK (fun w2 _ => ESZ Fv P PR w2 ∧ CALLF u w2) (fb_M_send_238 N () w) := by
  unfold fb_M_send_238
  exact ok_bnd.mpr (ok_mono (allEnds_ok hPB hS hN hs hat hP) (fun w2 _ h => ok_some.mpr ⟨⟨h.1, h.2.2.2.2⟩, CALLF.tr hc ⟨FR.mo h.2.1 (by decide) (by decide) (by decide) (by decide), h.2.2.1, h.2.2.2.1⟩⟩))
theorem s44_box {y v0 : MS} {n2 n3 opM bnM bxM : Nat} {ow3 kd3 : Nat → Nat} (d0 : DW Fv P PR v0) (lk0 : LK v0 PR) (wt0 : WTQ v0 PR) (hat0 : ATM v0) (hP0 : ∀ t, P t → PA v0 t) (hS : PS P) (hPB : PB P PR) (c0 : CALLF w v0) (hq : q < PR) (e9 : ¬ A v0 109 q = 3) (hb : bxM < 30) (m4 : MQq Fv P v0 y q n3 ow3 kd3 opM bnM bxM) (p5 : GT n3 ow3 kd3 P (mk 5 (n2 : Int))) (hN : 11000000 ≤ N) : OK (fun w2 _ => ESZ Fv P PR w2 ∧ CALLF w w2) (ck (inb (I (q : Int)) (ln 108)) (bnd (fm_M_term N y 5 (I (n2 : Int))) (fun u14 r14 => ck (inb (((I (q : Int)) * 30) + (y.2.2.1 108 (I (q : Int)).toNatClampNeg)) (ln 107)) (lt (upJ u14 107 (vp_updL (u14.2.2.2 107) (((I (q : Int)) * 30) + (y.2.2.1 108 (I (q : Int)).toNatClampNeg)).toNatClampNeg r14)) (fun w15 => ck (inb (I (q : Int)) (ln 108)) (ck (inb (I (q : Int)) (ln 108)) (lt (upA w15 108 (upd (w15.2.2.1 108) (I (q : Int)).toNatClampNeg ((w15.2.2.1 108 (I (q : Int)).toNatClampNeg) + 1))) (fun w16 => fb_M_send_238 N () w16)))))))) := by
  have pr := d0.1.2
  have x4 := m4.2.1.2.2.2.1
  have bx := box_ok (N := N) m4 d0 hq e9 hb p5
  unfold fb_M_message_406 at bx
  have y108 := m4.2.1.2.2.2.2.2.2.1.1
  rw [inb_at (k := 108) (n := 24) rfl (by omega) (by omega) (by decide), ck_t, I_tn (x := (q : Int)) (by omega) (by omega), Int.toNat_natCast, I_A' y108, show (30 : Int32) = I 30 from rfl, I_mul, I_add, inb_at (k := 107) (n := 720) rfl (by omega) (by omega) (by decide), ck_t, lt_e, I_tn (by omega) (by omega), show ((q : Int) * 30 + (bxM : Int)).toNat = 30 * q + bxM from by omega, wj_e, ck_t, ck_t, lt_e, show (wj y 107 (30 * q + bxM) (mk 5 (n2 : Int))).2.2.1 108 q = I bxM from I_A' y108, lit1q, I_add, wa_e] at bx
  have hz := ok_some.mp bx
  rw [inb_at (k := 108) (n := 24) rfl (by omega) (by omega) (by decide), ck_t, show (5 : Int32) = I 5 from rfl, term_e, bnd_so, I_tn (x := (q : Int)) (by omega) (by omega), Int.toNat_natCast, I_A' y108, show (30 : Int32) = I 30 from rfl, I_mul, I_add, inb_at (k := 107) (n := 720) rfl (by omega) (by omega) (by decide), ck_t, lt_e, I_tn (by omega) (by omega), show ((q : Int) * 30 + (bxM : Int)).toNat = 30 * q + bxM from by omega, wj_e, ck_t, ck_t, lt_e, show (wj y 107 (30 * q + bxM) (mk 5 (n2 : Int))).2.2.1 108 q = I bxM from I_A' y108, lit1q, I_add, wa_e]
  exact s238 (N := N) (u := w) hPB hS hN ⟨hz.1, LK_fr lk0 (MSG_evf hz).1 (by decide) (by decide), WT_fr wt0 (MSG_evf hz).1 (by decide) (by decide) (by decide)⟩ (ATM_fr hat0 (MSG_evf hz).1 (by decide) (by decide)) (PA_fr hP0 (MSG_evf hz).1 (by decide)) (CALLF.tr c0 (MSG_evf hz).callf)
theorem s44_pair {v : Int} {v0 v1 : MS} {n2 opM bnM bxM : Nat} {ow2 kd2 : Nat → Nat} (d0 : DW Fv P PR v0) (lk0 : LK v0 PR) (wt0 : WTQ v0 PR) (hat0 : ATM v0) (hP0 : ∀ t, P t → PA v0 t) (hS : PS P) (hPB : PB P PR) (c0 : CALLF w v0) (hq : q < PR) (e9 : ¬ A v0 109 q = 3) (hb : bxM < 30) (hv : -2147483648 ≤ v ∧ v < 2147483648) (mq : MQq Fv P v0 v1 q n2 ow2 kd2 opM bnM bxM) (hroom : n2 + 3 ≤ 500) (hN : 11000000 ≤ N) : OK (fun w2 _ => ESZ Fv P PR w2 ∧ CALLF w w2) (ck (inb (I (q : Int)) (ln 89)) (ck (inb (I (q : Int)) (ln 89)) (ck (inb (I (q : Int)) (ln 89)) (lt (upA v1 89 (upd (v1.2.2.1 89) (I (q : Int)).toNatClampNeg ((v1.2.2.1 89 (I (q : Int)).toNatClampNeg) + 3))) (fun w8 => ck (inb (((I (q : Int)) * 500) + (v1.2.2.1 89 (I (q : Int)).toNatClampNeg)) (ln 88)) (lt (upJ w8 88 (vp_updL (w8.2.2.2 88) (((I (q : Int)) * 500) + (v1.2.2.1 89 (I (q : Int)).toNatClampNeg)).toNatClampNeg 2)) (fun w9 => bnd (fm_M_term N w9 0 (I v)) (fun u10 r10 => ck (inb ((((I (q : Int)) * 500) + (v1.2.2.1 89 (I (q : Int)).toNatClampNeg)) + 1) (ln 88)) (lt (upJ u10 88 (vp_updL (u10.2.2.2 88) ((((I (q : Int)) * 500) + (v1.2.2.1 89 (I (q : Int)).toNatClampNeg)) + 1).toNatClampNeg r10)) (fun w11 => bnd (fm_M_term N w11 4 (I (q : Int))) (fun u12 r12 => ck (inb ((((I (q : Int)) * 500) + (v1.2.2.1 89 (I (q : Int)).toNatClampNeg)) + 2) (ln 88)) (lt (upJ u12 88 (vp_updL (u12.2.2.2 88) ((((I (q : Int)) * 500) + (v1.2.2.1 89 (I (q : Int)).toNatClampNeg)) + 2).toNatClampNeg r12)) (fun w13 => ck (inb (I (q : Int)) (ln 108)) (bnd (fm_M_term N w13 5 (v1.2.2.1 89 (I (q : Int)).toNatClampNeg)) (fun u14 r14 => ck (inb (((I (q : Int)) * 30) + (w13.2.2.1 108 (I (q : Int)).toNatClampNeg)) (ln 107)) (lt (upJ u14 107 (vp_updL (u14.2.2.2 107) (((I (q : Int)) * 30) + (w13.2.2.1 108 (I (q : Int)).toNatClampNeg)).toNatClampNeg r14)) (fun w15 => ck (inb (I (q : Int)) (ln 108)) (ck (inb (I (q : Int)) (ln 108)) (lt (upA w15 108 (upd (w15.2.2.1 108) (I (q : Int)).toNatClampNeg ((w15.2.2.1 108 (I (q : Int)).toNatClampNeg) + 1))) (fun w16 => fb_M_send_238 N () w16)))))))))))))))))))) := by
  have pr := d0.1.2
  have x4 := mq.2.1.2.2.2.1
  have m1 := mq.1
  rw [inb_at (k := 89) (n := 25) rfl (by omega) (by omega) (by decide), ck_t, ck_t, ck_t, lt_e, I_tn (x := (q : Int)) (by omega) (by omega), Int.toNat_natCast, I_A' m1, show (3 : Int32) = I 3 from rfl, I_add, wa_e, lit500, I_mul, I_add, inb_at (k := 88) (n := 12500) rfl (by omega) (by omega) (by decide), ck_t, lt_e, I_tn (by omega) (by omega), show ((q : Int) * 500 + (n2 : Int)).toNat = 500 * q + n2 from by omega, wj_e, lit0q, term_e, bnd_so, lit1q, I_add, inb_at (k := 88) (n := 12500) rfl (by omega) (by omega) (by decide), ck_t, lt_e, I_tn (by omega) (by omega), show ((q : Int) * 500 + (n2 : Int) + 1).toNat = 500 * q + (n2 + 1) from by omega, wj_e, show (4 : Int32) = I 4 from rfl, term_e, bnd_so, show (2 : Int32) = I 2 from rfl, I_add, inb_at (k := 88) (n := 12500) rfl (by omega) (by omega) (by decide), ck_t, lt_e, I_tn (by omega) (by omega), show ((q : Int) * 500 + (n2 : Int) + 2).toNat = 500 * q + (n2 + 2) from by omega, wj_e]
  have un : ∀ j, n2 + j < owH n2 ow2 (n2 + j) := fun j => by unfold owH; rw [if_pos (by omega)]; omega
  have mh := MQ_hole mq 3 (by omega)
  have mc := MQ_cell (t := mk 4 q) (MQ_cell (t := mk 0 v) (MQ_cell (t := 2) mh (i := n2) (by omega) (un 0)) (i := n2 + 1) (by omega) (un 1)) (i := n2 + 2) (by omega) (un 2)
  rw [show (n2 : Int) + ((3 : Nat) : Int) = (n2 : Int) + 3 from by omega] at mc
  have k0 : hp (wj (wj (wj (wa v1 89 q ((n2 : Int) + 3)) 88 (500 * q + n2) 2) 88 (500 * q + (n2 + 1)) (mk 0 v)) 88 (500 * q + (n2 + 2)) (mk 4 q)) q n2 = 2 := by rw [hp_wj, if_neg (by omega), hp_wj, if_neg (by omega), hp_wj, if_pos rfl]
  have k1 : hp (wj (wj (wj (wa v1 89 q ((n2 : Int) + 3)) 88 (500 * q + n2) 2) 88 (500 * q + (n2 + 1)) (mk 0 v)) 88 (500 * q + (n2 + 2)) (mk 4 q)) q (n2 + 1) = mk 0 v := by rw [hp_wj, if_neg (by omega), hp_wj, if_pos rfl]
  have k2 : hp (wj (wj (wj (wa v1 89 q ((n2 : Int) + 3)) 88 (500 * q + n2) 2) 88 (500 * q + (n2 + 1)) (mk 0 v)) 88 (500 * q + (n2 + 2)) (mk 4 q)) q (n2 + 2) = mk 4 q := by rw [hp_wj, if_pos rfl]
  generalize wj (wj (wj (wa v1 89 q ((n2 : Int) + 3)) 88 (500 * q + n2) 2) 88 (500 * q + (n2 + 1)) (mk 0 v)) 88 (500 * q + (n2 + 2)) (mk 4 q) = y at *
  have e5 : so (mk 5 (n2 : Int)) = 5 := so_mk (by omega) (by omega)
  have v5 : va (mk 5 (n2 : Int)) = n2 := va_mk (by omega) (by omega)
  have n5 : vn (mk 5 (n2 : Int)) = n2 := by unfold vn; rw [v5]; omega
  have va2 : va (2 : Int64) = 2 := by decide
  have bb : blk (hp y q) (mk 5 (n2 : Int)) = 3 := by unfold blk; rw [e5, n5, k0]; simp; unfold vn; rw [va2]; decide
  have pp : prt (mk 5 (n2 : Int)) = 1 := by unfold prt; rw [e5]; rfl
  have na : ¬ isH (mk 0 v) := nh_mk (by omega)
  obtain ⟨ow3, kd3, p1, p2, p3, p4, p5, p6, -⟩ := HP_put mc.2.1.2.1 (h2 := hp y q) (m := 3) (k := n2) (x := mk 5 (n2 : Int)) (fun _ _ => rfl) (by omega) (fun j _ => un j) (Or.inr (Or.inl e5)) (by omega) n5 bb (fun _ => by rw [k0]; exact HDC2) (fun e => by omega) (fun j h1 h2 => by
    rw [pp] at h1
    by_cases e : j = 1
    · rw [e, k1]; exact Or.inl ⟨na, hPB.2.2.2.1 v hv.1 hv.2⟩
    · have : j = 2 := by omega
      rw [this, k2]; exact Or.inl ⟨nh_mk (by omega), hPB.2.1 q hq⟩) (Or.inl ⟨e5, rfl, by rw [k1]; exact na⟩)
  have m4 : MQq Fv P v0 y q (n2 + 3) ow3 kd3 opM bnM bxM := MQ_heap mc FR.rf mc.1 (by omega) (fun _ _ => rfl) (fun _ _ => rfl) p4 (fun t g => GT_own g (Nat.le_refl _) p1 p2)
  have := s44_box (N := N) (n2 := n2) d0 lk0 wt0 hat0 hP0 hS hPB c0 hq e9 hb m4 p5 hN
  rw [I_tn (x := (q : Int)) (by omega) (by omega), Int.toNat_natCast, lit1q] at this
  exact this
theorem s44_ok {sort v : Int} (hs : ESI Fv P PR w) (hat : ATM w) (hP : ∀ t, P t → PA w t) (hS : PS P) (hPB : PB P PR) (hPa : ∀ a : Int, 0 ≤ a → a < F w 14 → P (mk 1 a)) (hq : q < PR) (hso : 0 ≤ sort ∧ sort ≤ 2) (hv : -2147483648 ≤ v ∧ v < 2147483648) (hsv : sort = 1 → 0 ≤ v ∧ v < F w 14) (hN : 11000000 ≤ N) : OK (fun w2 _ => ESZ Fv P PR w2 ∧ CALLF w w2) (fb_M_send_44 N () w (I q) (I sort) (I v) 0) := by
  have pr := hs.1.1.2
  unfold fb_M_send_44
  refine ok_lt.mpr ?_
  have f0 : FR [3] [] [] [] w (upI w 3 0) := FR.wi (x := 0) FR.rf (by decide)
  have z3 : (upI w 3 0).1 3 = 0 := rfl
  have hs0 : ESI Fv P PR (upI w 3 0) := ESI_fr hs f0 (by decide) (by decide) (by decide) (by decide) (by decide) (by decide) (by decide) (by decide) (by decide) (by decide) (by decide) (by decide) (by decide) (by decide) (by decide) (by decide) (by decide) (by decide) (by decide) (by decide) (by decide) (by decide)
  have hat0 := ATM_fr hat f0 (by decide) (by decide)
  have hP0 := PA_fr hP f0 (by decide)
  have c0 : CALLF w (upI w 3 0) := ⟨FR.mo f0 (by decide) (by decide) (by decide) (by decide), fun p => Or.inl (FR.A f0 (by decide)), fun i => Or.inl (FR.A f0 (by decide))⟩
  generalize upI w 3 0 = v0 at *
  obtain ⟨d0, lk0, wt0⟩ := id hs0
  have tell : ∀ so' : Int, (so' = 0 ∨ (so' = 1 ∧ 0 ≤ v ∧ v < F w 14)) → OK (fun w2 _ => ESZ Fv P PR w2 ∧ CALLF w w2) (fb_M_send_76 N () v0 (I v) (I q) 2 0 0 0 (I q) (I so')) := by
    intro so' hso'
    unfold fb_M_send_76
    rw [term_e, bnd_so, show (2 : Int32) = I ((2 : Nat) : Int) from rfl]
    have nh : ¬ isH (mk so' v) := nh_mk (by omega)
    have hPt : P (mk so' v) := by
      rcases hso' with h | ⟨h, h2, h3⟩
      · subst h; exact hPB.2.2.2.1 v hv.1 hv.2
      · subst h; exact hPa v h2 h3
    have hm := message_ev (N := N) (sort := 2) (p := 0) (r := 0) (wr := 0) (o := q) d0 hq hPB (by omega) (fun z => by omega) (by omega) (by omega) (by omega) (by omega) (Or.inl ⟨nh, hPt⟩) (by omega)
    rw [show I (((0 : Nat) : Nat) : Int) = (0 : Int32) from rfl, show I (0 : Int) = (0 : Int32) from rfl] at hm
    refine ok_bnd.mpr (ok_mono hm (fun v1 _ h => ?_))
    obtain ⟨h1, h2, h3⟩ := h
    exact s238 hPB hS hN ⟨h1, LK_fr lk0 h2.1 (by decide) (by decide), WT_fr wt0 h2.1 (by decide) (by decide) (by decide)⟩ (ATM_fr hat0 h2.1 (by decide) (by decide)) (PA_fr hP0 h2.1 (by decide)) (CALLF.tr c0 h2.callf)
  have stop := s238 (N := N) hPB hS hN hs0 hat0 hP0 c0
  have eq9 : v0.2.2.1 109 (I (q : Int)).toNatClampNeg = I (A v0 109 q) := by rw [I_tn (by omega) (by omega), Int.toNat_natCast]; exact I_A
  have eq8 : v0.2.2.1 108 (I (q : Int)).toNatClampNeg = I (A v0 108 q) := by rw [I_tn (by omega) (by omega), Int.toNat_natCast]; exact I_A
  have h9 := A_r v0 109 q
  have h8 := A_r v0 108 q
  refine ok_br.mpr ⟨fun _ => ok_br.mpr ⟨fun _ => ok_ck.mpr ⟨inb_at (k := 109) (n := 24) rfl (by omega) (by omega) (by decide), ok_br.mpr ⟨fun _ => stop, fun h3 => ok_ck.mpr ⟨inb_at (k := 108) (n := 24) rfl (by omega) (by omega) (by decide), ok_br.mpr ⟨fun _ => stop, fun h30 => ?_⟩⟩⟩⟩, fun h2 => ?_⟩, fun h => absurd z3 (of_decide_eq_false h)⟩
  · have e9 : ¬ A v0 109 q = 3 := fun z => of_decide_eq_false h3 (by rw [eq9, z]; rfl)
    have e8 : A v0 108 q < 30 := by
      have := of_decide_eq_false h30
      rw [eq8, show (30 : Int32) = I 30 from rfl, I_le (by omega) (by omega) h8.1 h8.2] at this
      omega
    obtain ⟨n, ow, kd, opM, bnM, bxM, hn, cx⟩ : PRC Fv P v0 q := d0.2.1 q hq
    have hw := wants_ok (N := N) cx hn (k := 3) (by omega) (by omega)
    rw [show I ((3 : Nat) : Int) = (3 : Int32) from rfl] at hw
    refine ok_bnd.mpr (ok_mono hw (fun v1 r hw => ?_))
    obtain ⟨n2, ow2, kd2, fd, R, h1, h2⟩ := hw
    have mq := MQ_wnt d0 cx h1
    have hb : bxM < 30 := by have := cx.2.2.2.2.2.2.1.1; omega
    refine ok_br.mpr ⟨fun hr => ?_, fun hr => ?_⟩
    · have dw := MQ_dw mq d0 hq e9
      have fr := mq.2.2.1
      rw [lit1q, show (20 : Int32) = I 20 from rfl, term_e, bnd_so, lit0q]
      refine ok_bnd.mpr (ok_mono (willEnd_ev (N := N) (wr := 0) dw hq (by omega) (show q ≤ 24 by omega) (Or.inl ⟨nh_mk (by omega), hPB.1 20 (by omega) (by omega)⟩)) (fun v2 _ h => ?_))
      obtain ⟨g1, g2, -⟩ := h
      have ev1 : CALLF v0 v1 := ⟨FR.mo fr (by decide) (by decide) (by decide) (by decide), fun p => Or.inl (FR.A fr (by decide)), fun i => Or.inl (FR.A fr (by decide))⟩
      exact s238 hPB hS hN ⟨g1, LK_fr (LK_fr lk0 fr (by decide) (by decide)) g2.1 (by decide) (by decide), WT_fr (WT_fr wt0 fr (by decide) (by decide) (by decide)) g2.1 (by decide) (by decide) (by decide)⟩ (ATM_fr (ATM_fr hat0 fr (by decide) (by decide)) g2.1 (by decide) (by decide)) (PA_fr (PA_fr hP0 fr (by decide)) g2.1 (by decide)) (CALLF.tr c0 (CALLF.tr ev1 g2.callf))
    · have hroom : n2 + 3 ≤ 500 := by
        rcases h2 with ⟨-, z⟩ | ⟨z, -⟩
        · exact z
        · exact absurd (show r = 0 by rw [z]; rfl) (of_decide_eq_false hr)
      exact s44_pair d0 lk0 wt0 hat0 hP0 hS hPB c0 hq e9 hb hv mq hroom hN
  · have s2 : ¬ 2 ≤ sort := fun z => of_decide_eq_false h2 (by rw [show (2 : Int32) = I 2 from rfl, I_le (by omega) (by omega) (by omega) (by omega)]; exact z)
    refine ok_br.mpr ⟨fun _ => tell 0 (Or.inl rfl), fun h0 => tell 1 (Or.inr ⟨rfl, hsv ?_⟩)⟩
    have : sort ≠ 0 := fun z => of_decide_eq_false h0 (by rw [z]; rfl)
    omega
theorem send_ok {a b c : Int32} (h : F w 87 = 0 ∨ (ESI Fv P PR w ∧ ATM w ∧ (∀ t, P t → PA w t) ∧ PS P ∧ PB P PR ∧ (∀ a : Int, 0 ≤ a → a < F w 14 → P (mk 1 a)))) (hN : 11000000 ≤ N) : OK (fun w2 _ => CALLF w w2 ∧ (F w 87 ≠ 0 → ESI Fv P PR w2 ∧ (F w 149 = 0 ∧ F w 150 = 0 → F w2 149 = 0 ∧ F w2 150 = 0)) ∧ (F w 87 = 0 → FR [3] [] [] [] w w2)) (fm_M_send N w a b c) := by
  have ra := ti_rng a
  have rb := ti_rng b
  have rc := ti_rng c
  rw [I_of a, I_of b, I_of c]
  generalize a.toInt = a at *
  generalize b.toInt = b at *
  generalize c.toInt = c at *
  have r87 := F_r w 87
  have r118 := F_r w 118
  have r14 := F_r w 14
  have bad : ∀ t : Int, t ≠ 0 → 0 ≤ t → t ≤ 3 → (F w 87 ≠ 0 → ESI Fv P PR w) → OK (fun w2 _ => CALLF w w2 ∧ (F w 87 ≠ 0 → ESI Fv P PR w2 ∧ (F w 149 = 0 ∧ F w 150 = 0 → F w2 149 = 0 ∧ F w2 150 = 0)) ∧ (F w 87 = 0 → FR [3] [] [] [] w w2)) (fb_M_send_44 N () w (I a) (I b) (I c) (I t)) := fun t t0 t1 t2 he => by
    unfold fb_M_send_44
    rw [lt_e, wi_e, show (wi w 3 t).1 3 = I t from I_F' (by rw [F_wi (by omega) (by omega), if_pos rfl]), lit0q, decE (by omega) (by omega) (by omega) (by omega), decide_eq_false t0, br_fq]
    have f0 : FR [3] [] [] [] w (wi w 3 t) := FR.wi FR.rf (by decide)
    exact ok_some.mpr ⟨⟨FR.mo f0 (by decide) (by decide) (by decide) (by decide), fun p => Or.inl (FR.A f0 (by decide)), fun i => Or.inl (FR.A f0 (by decide))⟩, fun z => ⟨ESI_fr (he z) f0 (by decide) (by decide) (by decide) (by decide) (by decide) (by decide) (by decide) (by decide) (by decide) (by decide) (by decide) (by decide) (by decide) (by decide) (by decide) (by decide) (by decide) (by decide) (by decide) (by decide) (by decide) (by decide), fun q => ⟨(FR.F f0 (by decide)).trans q.1, (FR.F f0 (by decide)).trans q.2⟩⟩, fun _ => f0⟩
  have he : F w 87 ≠ 0 → ESI Fv P PR w := fun z => by rcases h with h | h; exact absurd h z; exact h.1
  unfold fm_M_send fb_M_send_0 fb_M_send_26 fb_M_send_30 fb_M_send_39 fm_M_isProcess fb_M_isProcess_0 fb_M_isProcess_23 fb_M_isProcess_24
  rw [I_F (k := 87), lit0q, decE r87.1 r87.2 (by omega) (by omega), decL (by omega) (by omega) (by omega) (by omega), I_F (k := 118), decI r118.1 r118.2 (by omega) (by omega)]
  have b1 := bad 1 (by omega) (by omega) (by omega) he
  have b2 := bad 2 (by omega) (by omega) (by omega) he
  have no : OK (fun u17 r17 => OK (fun w2 _ => CALLF w w2 ∧ (F w 87 ≠ 0 → ESI Fv P PR w2 ∧ (F w 149 = 0 ∧ F w 150 = 0 → F w2 149 = 0 ∧ F w2 150 = 0)) ∧ (F w 87 = 0 → FR [3] [] [] [] w w2)) (br (decide (r17 = I 0)) (fb_M_send_44 N () u17 (I a) (I b) (I c) 1) (br (decide (I b = 1)) (br (decide (I c < I 0)) (fb_M_send_44 N () u17 (I a) (I b) (I c) 1) (br (decide (I c < (u17.1 14))) (br (decide (I b < I 0)) (fb_M_send_44 N () u17 (I a) (I b) (I c) 2) (br (decide (I b ≤ 2)) (fb_M_send_44 N () u17 (I a) (I b) (I c) (I 0)) (fb_M_send_44 N () u17 (I a) (I b) (I c) 2))) (fb_M_send_44 N () u17 (I a) (I b) (I c) 1))) (br (decide (I b < I 0)) (fb_M_send_44 N () u17 (I a) (I b) (I c) 2) (br (decide (I b ≤ 2)) (fb_M_send_44 N () u17 (I a) (I b) (I c) (I 0)) (fb_M_send_44 N () u17 (I a) (I b) (I c) 2)))))) (ck (isb (I 0)) (some (w, I 0))) := by
    refine ok_ck.mpr ⟨rfl, ok_some.mpr ?_⟩
    rw [decE (by omega) (by omega) (by omega) (by omega), decide_eq_true rfl, br_tq]
    exact b1
  refine ok_bnd.mpr (ok_br.mpr ⟨fun _ => no, fun h87 => ok_br.mpr ⟨fun _ => no, fun ha => ok_br.mpr ⟨fun _ => no, fun hp => ?_⟩⟩⟩)
  have h87' : F w 87 ≠ 0 := of_decide_eq_false h87
  have ha' : ¬ a < 0 := of_decide_eq_false ha
  have hp' : ¬ F w 118 ≤ a := of_decide_eq_false hp
  rcases h with h | ⟨hs, hat, hP, hS, hPB, hPa⟩
  · exact absurd h h87'
  have pr := hs.1.1
  have good : (b = 1 → 0 ≤ c ∧ c < F w 14) → OK (fun w2 _ => CALLF w w2 ∧ (F w 87 ≠ 0 → ESI Fv P PR w2 ∧ (F w 149 = 0 ∧ F w 150 = 0 → F w2 149 = 0 ∧ F w2 150 = 0)) ∧ (F w 87 = 0 → FR [3] [] [] [] w w2)) (br (decide (I b < I 0)) (fb_M_send_44 N () w (I a) (I b) (I c) 2) (br (decide (I b ≤ 2)) (fb_M_send_44 N () w (I a) (I b) (I c) (I 0)) (fb_M_send_44 N () w (I a) (I b) (I c) 2))) := fun hb1 => by
    rw [show (2 : Int32) = I 2 from rfl, decL (by omega) (by omega) (by omega) (by omega), decI (by omega) (by omega) (by omega) (by omega)]
    refine ok_br.mpr ⟨fun _ => b2, fun z1 => ok_br.mpr ⟨fun z2 => ?_, fun _ => b2⟩⟩
    have z1' : ¬ b < 0 := of_decide_eq_false z1
    have z2' : b ≤ 2 := of_decide_eq_true z2
    have := s44_ok (N := N) (q := a.toNat) (sort := b) (v := c) hs hat hP hS hPB hPa (by omega) (by omega) rc hb1 hN
    rw [show ((a.toNat : Nat) : Int) = a from by omega] at this
    exact ok_mono this (fun w2 _ q => ⟨q.2, fun _ => ⟨q.1.1, fun _ => q.1.2⟩, fun z => absurd z h87'⟩)
  refine ok_ck.mpr ⟨rfl, ok_some.mpr ?_⟩
  rw [lit1q, decE (by omega) (by omega) (by omega) (by omega), decide_eq_false (by omega), br_fq, decE (by omega) (by omega) (by omega) (by omega), decL (by omega) (by omega) (by omega) (by omega), I_F (k := 14), decL (by omega) (by omega) (by omega) (by omega)]
  refine ok_br.mpr ⟨fun _ => ok_br.mpr ⟨fun _ => b1, fun z1 => ok_br.mpr ⟨fun z2 => ?_, fun _ => b1⟩⟩, fun z => good (fun zz => absurd zz (of_decide_eq_false z))⟩
  exact good (fun _ => ⟨by have := of_decide_eq_false z1; omega, of_decide_eq_true z2⟩)
end
end
section
def CTI (w : MS) (T : TY) (ND p : Nat) (ct : Nat → Nat) (i c0 k tp ro rn rh : Nat) : Prop :=
  ∀ j, j < k → A w 102 (1600 * p + (c0 + j)) = ((i : Nat) : Int) ∧ A w 103 (1600 * p + (c0 + j)) = ((ct (c0 + j) : Nat) : Int) ∧ ct (c0 + j) < ND ∧ A w 23 (ct (c0 + j)) = 19 ∧ tK T (ct (c0 + j)) = j ∧ tL T (ct (c0 + j)) = rh ∧ A w 104 (1600 * p + (c0 + j)) = ((ro + tH T (ct (c0 + j)) : Nat) : Int) ∧ A w 105 (1600 * p + (c0 + j)) = ((rn + rh + tM T (ct (c0 + j)) : Nat) : Int) ∧ (j + 1 = k → ct (c0 + j) = tp) ∧ ∀ m, m + 1 = j → ct (c0 + m) = tC T (ct (c0 + j))
def FRS (w : MS) (T : TY) (ND p fr : Nat) (ro rn rh cb pc ct : Nat → Nat) (k tp : Nat) : Prop :=
  (1 ≤ fr ∧ fr ≤ 60 ∧ A w 95 p = ((fr : Nat) : Int)) ∧ (ro 0 = 0 ∧ rn 0 = 0 ∧ cb 0 = 0) ∧
  (∀ i, i < fr → A w 100 (60 * p + i) = ((ro i : Nat) : Int) ∧ A w 99 (60 * p + i) = ((rn i : Nat) : Int) ∧ A w 101 (60 * p + i) = ((rh i : Nat) : Int) ∧ rh i ≤ 40 ∧ ro i ≤ 760 * i ∧ rn i ≤ 40 * i ∧ cb i ≤ 26 * i) ∧
  (∀ i, i + 1 < fr → A w 98 (60 * p + i) = ((pc i : Nat) : Int) ∧ pc i < ND ∧ tG T (pc i) = 0 ∧ tB T (pc i) + 1 ≤ tH T (pc i) ∧ ro (i + 1) + 1 = ro i + tH T (pc i) ∧ rh i = tL T (pc i) ∧ rn (i + 1) = rn i + rh i + tM T (pc i) ∧ cb (i + 1) = cb i + tK T (pc i) ∧ CTI w T ND p ct i (cb i) (tK T (pc i)) (tC T (pc i)) (ro i) (rn i) (rh i)) ∧
  CTI w T ND p ct (fr - 1) (cb (fr - 1)) k tp (ro (fr - 1)) (rn (fr - 1)) (rh (fr - 1))
def sR (T : TY) (pc : Nat → Nat) : Nat → Nat
  | 0 => 0
  | m + 1 => sR T pc m + tR T (pc m)
section
variable {Fv : Int64 → Int64 → Prop} {P : Int64 → Prop} {w w2 : MS} {PR N p n opM bnM bxM ND fr k tp mu CN PN SN UN FN : Nat} {ow kd ro rn rh cb pc ct pM pE : Nat → Nat} {T : TY} {C : CY}
theorem CTI_fr {is ls as js : List Nat} {i c0 roi rni rhi : Nat} (c : CTI w T ND p ct i c0 k tp roi rni rhi) (f : FR is ls as js w w2) (a1 : 23 ∉ as) (a2 : 102 ∉ as) (a3 : 103 ∉ as) (a4 : 104 ∉ as) (a5 : 105 ∉ as) : CTI w2 T ND p ct i c0 k tp roi rni rhi := fun j hj => by
  rw [FR.A f a1, FR.A f a2, FR.A f a3, FR.A f a4, FR.A f a5]; exact c j hj
theorem FRS_fr {is ls as js : List Nat} (h : FRS w T ND p fr ro rn rh cb pc ct k tp) (f : FR is ls as js w w2) (a1 : 23 ∉ as) (a2 : 102 ∉ as) (a3 : 103 ∉ as) (a4 : 104 ∉ as) (a5 : 105 ∉ as) (a6 : 95 ∉ as) (a7 : 98 ∉ as) (a8 : 99 ∉ as) (a9 : 100 ∉ as) (a10 : 101 ∉ as) : FRS w2 T ND p fr ro rn rh cb pc ct k tp := by
  obtain ⟨⟨h1, h2, h3⟩, h4, h5, h6, h7⟩ := h
  refine ⟨⟨h1, h2, by rw [FR.A f a6]; exact h3⟩, h4, fun i hi => by rw [FR.A f a9, FR.A f a8, FR.A f a10]; exact h5 i hi, fun i hi => ?_, CTI_fr h7 f a1 a2 a3 a4 a5⟩
  obtain ⟨q1, q2, q3, q4, q6, q7, q8, q9, q10⟩ := h6 i hi
  exact ⟨by rw [FR.A f a7]; exact q1, q2, q3, q4, q6, q7, q8, q9, CTI_fr q10 f a1 a2 a3 a4 a5⟩
theorem ro_mono (h : FRS w T ND p fr ro rn rh cb pc ct k tp) : ∀ e i, i + e < fr → ro i ≤ ro (i + e) ∧ rn i ≤ rn (i + e) ∧ cb i ≤ cb (i + e) := by
  intro e
  induction e with
  | zero => intro i _; exact ⟨Nat.le_refl _, Nat.le_refl _, Nat.le_refl _⟩
  | succ e ih =>
    intro i hi
    obtain ⟨a, b', c⟩ := ih i (by omega)
    obtain ⟨-, -, -, q4, q6, -, q8, q9, -⟩ := h.2.2.2.1 (i + e) (by omega)
    rw [show i + (e + 1) = i + e + 1 from by omega]
    omega
theorem sR_mono {m e : Nat} : sR T pc m ≤ sR T pc (m + e) := by
  induction e with
  | zero => exact Nat.le_refl _
  | succ e ih => exact Nat.le_trans ih (Nat.le_add_right _ _)
theorem CT_top (hg : PRG w T C pM pE ND CN PN SN UN FN) (h : FRS w T ND p fr ro rn rh cb pc ct k tp) {rq : Nat} (h1 : 0 < k → ro (fr - 1) + tH T tp ≤ opM ∧ rn (fr - 1) + rh (fr - 1) + tM T tp ≤ bnM ∧ ∃ a : Nat, A w 25 tp = a ∧ tR T a < rq) (h2 : ro (fr - 1) ≤ opM ∧ rn (fr - 1) ≤ bnM) (hk : 0 < cb (fr - 1) + k) : ∃ i kk tt, i < fr ∧ 0 < kk ∧ cb i + kk = cb (fr - 1) + k ∧ CTI w T ND p ct i (cb i) kk tt (ro i) (rn i) (rh i) ∧ ro i + tH T tt ≤ opM ∧ rn i + rh i + tM T tt ≤ bnM ∧ ∀ a : Nat, A w 25 tt = a → sR T pc i + tR T a < sR T pc (fr - 1) + rq := by
  obtain ⟨⟨q1, q2, q3⟩, ⟨z1, z2, z3⟩, h5, h6, h7⟩ := id h
  by_cases k0 : 0 < k
  · obtain ⟨a1, a2, a, a3, a4⟩ := h1 k0
    exact ⟨fr - 1, k, tp, by omega, k0, rfl, h7, a1, a2, fun a' ha' => by obtain rfl : a' = a := (by omega); omega⟩
  have ek : k = 0 := by omega
  subst ek
  have key : ∀ m, m < fr → 0 < cb m → ∃ i kk tt, i < m ∧ 0 < kk ∧ cb i + kk = cb m ∧ CTI w T ND p ct i (cb i) kk tt (ro i) (rn i) (rh i) ∧ ro i + tH T tt ≤ ro m ∧ rn i + rh i + tM T tt ≤ rn m ∧ ∀ a : Nat, A w 25 tt = a → sR T pc i + tR T a < sR T pc m := by
    intro m
    induction m with
    | zero => intro _ z; omega
    | succ m ih =>
      intro hm hc
      obtain ⟨-, r2, -, r4, r6, -, r8, r9, r10⟩ := h6 m hm
      by_cases e : 0 < tK T (pc m)
      · obtain ⟨-, -, -, -, n5, -, n7, -⟩ := (hg.2.2.1 (pc m) r2).1
        obtain ⟨-, -, -, -, s5, s6, a, s7, s8⟩ := n7 e
        exact ⟨m, _, _, by omega, e, r9.symm, r10, by omega, by omega, fun a' ha' => by obtain rfl : a' = a := (by omega); show _ < sR T pc m + tR T (pc m); omega⟩
      · obtain ⟨i, kk, tt, s1, s2, s3, s4, s5, s6, s7⟩ := ih (by omega) (by omega)
        exact ⟨i, kk, tt, by omega, s2, by omega, s4, by omega, by omega, fun a ha => by have := s7 a ha; show _ < sR T pc m + tR T (pc m); omega⟩
  obtain ⟨i, kk, tt, s1, s2, s3, s4, s5, s6, s7⟩ := key (fr - 1) (by omega) (by omega)
  exact ⟨i, kk, tt, by omega, s2, by omega, s4, by omega, by omega, fun a ha => by have := s7 a ha; omega⟩
def CLK (w : MS) (r : Nat) (mu : Nat) : Prop := 0 ≤ F w 165 ∧ F w 165 ≤ F w 164 ∧ F w 164 ≤ 500 ∧ (F w 164 - F w 165) * 1000000000000 + 500000 * (r : Int) ≤ mu
def ATN (Fv : Int64 → Int64 → Prop) (P : Int64 → Prop) (PR : Nat) (T : TY) (ND p mu : Nat) (w : MS) : Prop := ∃ fr ro rn rh cb pc ct q n ow kd bxM, MEI Fv P PR w p n ow kd (ro (fr - 1) + tH T q) (rn (fr - 1) + rh (fr - 1) + tM T q) bxM ∧ FRS w T ND p fr ro rn rh cb pc ct (tK T q) (tC T q) ∧ A w 98 (60 * p + (fr - 1)) = ((q : Nat) : Int) ∧ q < ND ∧ rh (fr - 1) = tL T q ∧ A w 106 p = ((cb (fr - 1) + tK T q : Nat) : Int) ∧ tG T q = 0 ∧ A w 109 p = 0 ∧ F w 152 = 0 ∧ CLK w (sR T pc (fr - 1) + tR T q) mu
def ENDD (Fv : Int64 → Int64 → Prop) (P : Int64 → Prop) (PR p : Nat) (w : MS) : Prop := DW Fv P PR w ∧ A w 109 p = 3
def STF (u w : MS) : Prop := FR [119, 136, 138, 140, 150, 151, 152, 153, 154, 155, 156, 157, 158, 159, 165, 166, 169] [139] [89, 90, 92, 94, 95, 96, 97, 98, 99, 100, 101, 102, 103, 104, 105, 106, 108, 109, 110, 114, 115, 135, 142, 145, 146, 147, 160, 162, 168] [88, 91, 93, 107, 111, 134, 137, 141, 148, 161, 163, 167] u w
def STF0 (u w : MS) : Prop := FR [119, 136, 138, 140, 152, 153, 154, 155, 156, 157, 158, 159, 165, 166, 169] [139] [89, 90, 92, 94, 95, 96, 97, 98, 99, 100, 101, 102, 103, 104, 105, 106, 108, 109, 110, 114, 115, 135, 142, 145, 146, 147, 160, 162, 168] [88, 91, 93, 107, 111, 134, 137, 141, 148, 161, 163, 167] u w
def STG (p : Nat) (u w : MS) : Prop := STF0 u w ∨ (STF u w ∧ A w 109 p = 3)
theorem STF0.st {u w : MS} (a : STF0 u w) : STF u w := FR.mo a (by decide) (by decide) (by decide) (by decide)
theorem STG.tr {p : Nat} {u v w : MS} (a : STF0 u v) (b : STG p v w) : STG p u w := by
  rcases b with b | ⟨b, c⟩
  · exact Or.inl (FR.tr a b)
  · exact Or.inr ⟨FR.tr a.st b, c⟩
theorem STG.st {p : Nat} {u w : MS} (a : STG p u w) : STF u w := by
  rcases a with a | a
  · exact a.st
  · exact a.1
theorem ends_ok {t : Int64} {wr : Int} (i : MEI Fv P PR w p n ow kd opM bnM bxM) (g : GT n ow kd P t) (hw : 0 ≤ wr ∧ wr ≤ 2) : OK (fun w2 _ => ENDD Fv P PR p w2 ∧ FR [150, 151] [] [109, 145, 146, 147] [148] w w2 ∧ ∀ z, z ≠ p → A w2 109 z = A w 109 z) (fm_M_ends N w (I wr) t) := by
  have x4 := MEI_p i
  obtain ⟨m1, m2, m3, m4, m5, ⟨x1, x2, x3, -⟩⟩ := id i
  unfold fm_M_ends fb_M_ends_0
  rw [I_F' m3]
  have ht : (¬ isH t ∧ P t) ∨ (isH t ∧ (p = 24 ∨ (p < PR ∧ (A w 109 p = 3 ∨ p = p))) ∧ GTP Fv P w p t) := by
    by_cases hh : isH t
    · exact Or.inr ⟨hh, Or.inr ⟨m2, Or.inr rfl⟩, n, ow, kd, m5, x3, x2, g⟩
    · rcases g with z | ⟨z, -⟩
      · exact Or.inl z
      · exact absurd z hh
  refine ok_bnd.mpr (ok_mono (willEnd_ok (N := N) m1 m2 hw (show p ≤ 24 by omega) ht) (fun v _ h => ?_))
  obtain ⟨h1, h2, h3, h4⟩ := h
  rw [lt_e, lit1q, wi_e]
  have f0 : FR [151] [] [] [] v (wi v 151 1) := FR.wi FR.rf (by decide)
  refine ok_some.mpr ⟨⟨DW_fr h1 f0 (by decide) (by decide) (by decide) (by decide) (by decide) (by decide) (by decide) (by decide) (by decide) (by decide) (by decide) (by decide) (by decide) (by decide) (by decide) (by decide) (by decide), h3⟩, FR.wi (FR.mo h2 (by decide) (by decide) (by decide) (by decide)) (by decide), h4⟩
theorem noRoom_ok (i : MEI Fv P PR w p n ow kd opM bnM bxM) (hPB : PB P PR) : OK (fun w2 _ => ENDD Fv P PR p w2 ∧ FR [150, 151] [] [109, 145, 146, 147] [148] w w2 ∧ ∀ z, z ≠ p → A w2 109 z = A w 109 z) (fm_M_noRoom N w) := by
  unfold fm_M_noRoom fb_M_noRoom_0
  rw [lit1q, show (20 : Int32) = I 20 from rfl, term_e, bnd_so, lit0q]
  exact ok_bnd.mpr (ok_mono (ends_ok i (Or.inl ⟨nh_mk (by omega), hPB.1 20 (by omega) (by omega)⟩) (by omega)) (fun v _ h => ok_some.mpr h))
end
end
section
section
variable {Fv : Int64 → Int64 → Prop} {P : Int64 → Prop} {w w2 : MS} {PR N p n opM bnM bxM ND fr k b d CN PN SN UN FN : Nat} {ow kd ro rn rh cb pc ct pM pE : Nat → Nat} {T : TY} {C : CY}
theorem goTo_ok {q fr2 : Nat} (i : MEI Fv P PR w p n ow kd opM bnM bxM) (h1 : A w 95 p = ((fr2 : Nat) : Int)) (h2 : 1 ≤ fr2 ∧ fr2 ≤ 60) (hq : q < 100000) : fm_M_goTo N w (I q) = some (wa w 98 (60 * p + (fr2 - 1)) q, ()) := by
  have x4 := MEI_p i
  unfold fm_M_goTo fb_M_goTo_0 fm_M_frame0 fb_M_frame0_0
  rw [I_F' i.2.2.1, inb_at (k := 95) (n := 24) rfl (by omega) (by omega) (by decide), ck_t, I_tn (by omega) (by omega), Int.toNat_natCast, I_A' h1, show (60 : Int32) = I 60 from rfl, I_mul, I_add, lit1q, I_sub, bnd_so, show (p : Int) * 60 + (fr2 : Int) - 1 = ((60 * p + (fr2 - 1) : Nat) : Int) from by omega, inb_at (k := 98) (n := 1440) rfl (by omega) (by omega) (by decide), ck_t, lt_e, I_tn (by omega) (by omega), Int.toNat_natCast, wa_e]
theorem wants_h {t : Int64} {m : Nat} (i : MEI Fv P PR w p n ow kd opM bnM bxM) (g : GT n ow kd P t) (hm : m ≤ 1000) (hN : 60000 ≤ N) : OK (fun v r => ∃ n2 ow2 kd2, MEI Fv P PR (wl (wi v 140 (-1)) 139 (mk 6 0)) p n2 ow2 kd2 opM bnM bxM ∧ GT n2 ow2 kd2 P (v.2.1 139) ∧ FR [136, 138, 140] [139] [89, 90, 135] [88, 91, 93, 107, 134, 137] w (wl (wi v 140 (-1)) 139 (mk 6 0)) ∧ F v 133 = p ∧ ((r = I 1 ∧ n2 + m ≤ 500) ∨ r = I 0)) (fm_M_wants N (wl (wi w 140 p) 139 t) (I p) (I m)) := by
  have x4 := MEI_p i
  obtain ⟨m1, m2, m3, m4, m5, ⟨x1, x2, x3, -, x5, x6, x7, x8, x9, x10, x11⟩⟩ := id i
  have e140 : F (wl (wi w 140 p) 139 t) 140 = p := by rw [F_wl, F_wi (by omega) (by omega), if_pos rfl]
  have e139 : (wl (wi w 140 p) 139 t).2.1 139 = t := by rw [L_wl, if_pos rfl]
  have f1 : FR [140] [139] [] [] w (wl (wi w 140 p) 139 t) := FR.wl (FR.wi FR.rf (by decide)) (by decide)
  have cx : CX (wl (wi w 140 p) 139 t) p (hp (wl (wi w 140 p) 139 t) p) n ow kd Fv P opM bnM bxM := ⟨rfl, x2, x3, x4, x5, x6, x7, x8, x9, x10, fun _ => by rw [e139]; exact g⟩
  refine ok_mono (wants_ok (N := N) cx m5 (k := m) (by omega) hN) (fun v r h => ?_)
  obtain ⟨n2, ow2, kd2, fd, R, ⟨t1, t2, t3, t4, t5, t6, t7, t8, t9, t10, t11, t12⟩, h2⟩ := h
  have f2 : FR [136, 138, 140] [139] [89, 90, 135] [88, 91, 93, 107, 134, 137] w (wl (wi v 140 (-1)) 139 (mk 6 0)) := FR.wl (FR.wi (FR.tr (FR.mo f1 (by decide) (by decide) (by decide) (by decide)) (FR.mo t6 (by decide) (by decide) (by decide) (by decide))) (by decide)) (by decide)
  obtain ⟨y1, y2, y3, y4, y5, y6, y7, y8, y9, y10, y11⟩ := t3
  have z140 : F (wl (wi v 140 (-1)) 139 (mk 6 0)) 140 = -1 := by rw [F_wl, F_wi (by omega) (by omega), if_pos rfl]
  refine ⟨n2, ow2, kd2, MEI_upd i (FR.mo f2 (by decide) (by decide) (by decide) (by decide)) z140 (fun q hq => by show A v 89 q = _; rw [t5, if_neg hq]; rfl) (fun q _ => FR.A f2 (by decide)) (fun q _ => FR.A f2 (by decide)) (fun q _ => FR.A f2 (by decide)) (fun j hj => t7 j hj) (fun j hj => RTS_out t8 x5.2 hj) (fun j hj => RTS_out t9 x6.2 hj) (fun j hj => RTS_out t10 x7.2 hj) (by show A v 89 p = _; rw [t5, if_pos rfl]) ⟨rfl, y2, y3, y4, y5, y6, y7, y8, y9, y10, fun e => by omega⟩, ?_, f2, by rw [FR.F t6 (by decide)]; exact m3, ?_⟩
  · rw [(t11 e140).1, e139]
    exact HOM_gt t1 g (by have := (t11 e140).2; rw [e139] at this; exact this)
  · rcases h2 with h2 | h2
    · exact Or.inl h2
    · exact Or.inr h2.1
theorem hand_e {t : Int64} {q : Int} : fm_M_hand N w (I q) t = some (wl (wi w 140 q) 139 t, ()) := rfl
theorem handNone_e : fm_M_handNone N w = some (wl (wi w 140 (-1)) 139 (mk 6 0), ()) := rfl
theorem gU9 {S : SG_M_error} {v : MS} {t : Int64} {kn : Int} {c i0 cn a ho hn : Nat} (i : MEI Fv P PR v p n ow kd ho hn bxM) (hPB : PB P PR) (g : GT n ow kd P t) (hk : 0 ≤ kn ∧ kn ≤ 2) (hc : c < 1600) (h103 : A v 103 (1600 * p + c) = ((cn : Nat) : Int)) (hcn : cn < 16000) (h25 : A v 25 cn = ((a : Nat) : Int)) (ha : a < 16000) (h95 : A v 95 p = ((i0 + 1 : Nat) : Int)) (hi : i0 < 60) (hop : ho < 46000) (hN : 60000 ≤ N) :
    OK (fun w2 _ => (ENDD Fv P PR p w2 ∧ FR [136, 138, 140, 150, 151] [139] [89, 90, 109, 135, 145, 146, 147] [88, 91, 93, 107, 134, 137, 148] v w2 ∧ ∀ z, z ≠ p → A w2 109 z = A v 109 z) ∨ (∃ n2 ow2 kd2, MEI Fv P PR w2 p n2 ow2 kd2 (ho + 1) hn bxM ∧ FR [136, 138, 140] [139] [89, 90, 92, 98, 135] [88, 91, 93, 107, 134, 137] v w2 ∧ (∀ j, A w2 98 j = if j = 60 * p + i0 then ((a : Nat) : Int) else A v 98 j) ∧ ∀ z, z ≠ p → A w2 92 z = A v 92 z)) (br (decide ((I kn) = 2)) (bnd (fm_M_put N v t) (fun u15 _ => fb_M_goesUp_205 N S () u15 ((I ((1600 * p + c : Nat) : Int))))) (bnd (fm_M_hand N v (v.1 133) t) (fun u10 _ => bnd (fm_M_wants N u10 (u10.1 133) 3) (fun u11 r11 => br (decide (r11 = 0)) (bnd (fm_M_handNone N u11) (fun u13 _ => bnd (fm_M_noRoom N u13) (fun u14 _ => some (u14, ())))) (bnd (fm_M_handNone N u11) (fun u12 _ => br (decide ((I kn) = 0)) (fb_M_goesUp_197 N S () u12 ((I ((1600 * p + c : Nat) : Int))) ((u11.2.1 139)) (7)) (fb_M_goesUp_197 N S () u12 ((I ((1600 * p + c : Nat) : Int))) ((u11.2.1 139)) (8)))))))) := by
  have x4 := MEI_p i
  have fin : ∀ (u : MS) (n2 : Nat) (ow2 kd2 : Nat → Nat), MEI Fv P PR u p n2 ow2 kd2 (ho + 1) hn bxM → FR [136, 138, 140] [139] [89, 90, 92, 135] [88, 91, 93, 107, 134, 137] v u → (∀ z, z ≠ p → A u 92 z = A v 92 z) → OK (fun w2 _ => (ENDD Fv P PR p w2 ∧ FR [136, 138, 140, 150, 151] [139] [89, 90, 109, 135, 145, 146, 147] [88, 91, 93, 107, 134, 137, 148] v w2 ∧ ∀ z, z ≠ p → A w2 109 z = A v 109 z) ∨ (∃ n2 ow2 kd2, MEI Fv P PR w2 p n2 ow2 kd2 (ho + 1) hn bxM ∧ FR [136, 138, 140] [139] [89, 90, 92, 98, 135] [88, 91, 93, 107, 134, 137] v w2 ∧ (∀ j, A w2 98 j = if j = 60 * p + i0 then ((a : Nat) : Int) else A v 98 j) ∧ ∀ z, z ≠ p → A w2 92 z = A v 92 z)) (fb_M_goesUp_205 N S () u (I ((1600 * p + c : Nat) : Int))) := fun u n2 ow2 kd2 iu fu hu => by
    unfold fb_M_goesUp_205
    rw [inb_at (k := 103) (n := 38400) rfl (by omega) (by omega) (by decide), ck_t, I_tn (x := ((1600 * p + c : Nat) : Int)) (by omega) (by omega), Int.toNat_natCast, I_A' (show A u 103 (1600 * p + c) = cn by rw [FR.A fu (by decide)]; exact h103), inb_at (k := 25) (n := 16000) rfl (by omega) (by omega) (by decide), ck_t, I_tn (by omega) (by omega), Int.toNat_natCast, I_A' (show A u 25 cn = a by rw [FR.A fu (by decide)]; exact h25), goTo_ok iu (by rw [FR.A fu (by decide)]; exact h95) (by omega) (by omega), bnd_so]
    have f98 : FR [] [] [98] [] u (wa u 98 (60 * p + (i0 + 1 - 1)) a) := FR.wa FR.rf (by decide)
    refine ok_some.mpr (Or.inr ⟨n2, ow2, kd2, MEI_fr iu f98 (by decide) (by decide) (by decide) (by decide) (by decide) (by decide) (by decide) (by decide) (by decide) (by decide) (by decide) (by decide) (by decide) (by decide) (by decide) (by decide) (by decide) (by decide), FR.tr (FR.mo fu (by decide) (by decide) (by decide) (by decide)) (FR.mo f98 (by decide) (by decide) (by decide) (by decide)), fun j => ?_, fun z hz => by rw [FR.A f98 (by decide)]; exact hu z hz⟩)
    rw [A_eq (by omega) (by omega), show 60 * p + (i0 + 1 - 1) = 60 * p + i0 from by omega, FR.A fu (by decide)]
  refine ok_br.mpr ⟨fun _ => ?_, fun h2 => ?_⟩
  · refine ok_bnd.mpr (ok_mono (put_ok (N := N) i g hop) (fun u _ h => ?_))
    obtain ⟨h1, h2⟩ := h
    exact fin u n ow kd h2 (by rw [h1]; exact FR.wa (FR.wj FR.rf (by decide)) (by decide)) (fun z hz => by rw [h1, A_eq (by omega) (by omega), if_neg hz, A_wj])
  · rw [I_F' i.2.2.1, hand_e, bnd_so, show (wl (wi v 140 p) 139 t).1 133 = I p from I_F' (by rw [F_wl, F_wi (by omega) (by omega), if_neg (by decide)]; exact i.2.2.1)]
    have hw := wants_h (m := 3) i g (by omega) hN
    rw [show I ((3 : Nat) : Int) = (3 : Int32) from rfl] at hw
    refine ok_bnd.mpr (ok_mono hw (fun u r h => ?_))
    obtain ⟨n2, ow2, kd2, q1, q2, q3, -, q4⟩ := h
    rw [handNone_e, bnd_so]
    refine ok_br.mpr ⟨fun _ => ?_, fun hr => ?_⟩
    · refine ok_bnd.mpr (ok_mono (noRoom_ok (N := N) q1 hPB) (fun u2 _ h => ok_some.mpr (Or.inl ⟨h.1, FR.tr (FR.mo q3 (by decide) (by decide) (by decide) (by decide)) (FR.mo h.2.1 (by decide) (by decide) (by decide) (by decide)), fun z hz => by rw [h.2.2 z hz, FR.A q3 (by decide)]⟩)))
    · have room : n2 + 3 ≤ 500 := by
        rcases q4 with ⟨-, z⟩ | z
        · exact z
        · exact absurd (show r = 0 by rw [z]; rfl) (of_decide_eq_false hr)
      have tail : ∀ x : Int, 0 ≤ x → x < 22 → OK (fun w2 _ => (ENDD Fv P PR p w2 ∧ FR [136, 138, 140, 150, 151] [139] [89, 90, 109, 135, 145, 146, 147] [88, 91, 93, 107, 134, 137, 148] v w2 ∧ ∀ z, z ≠ p → A w2 109 z = A v 109 z) ∨ (∃ n2 ow2 kd2, MEI Fv P PR w2 p n2 ow2 kd2 (ho + 1) hn bxM ∧ FR [136, 138, 140] [139] [89, 90, 92, 98, 135] [88, 91, 93, 107, 134, 137] v w2 ∧ (∀ j, A w2 98 j = if j = 60 * p + i0 then ((a : Nat) : Int) else A v 98 j) ∧ ∀ z, z ≠ p → A w2 92 z = A v 92 z)) (fb_M_goesUp_197 N S () (wl (wi u 140 (-1)) 139 (mk 6 0)) (I ((1600 * p + c : Nat) : Int)) (u.2.1 139) (I x)) := fun x x0 x1 => by
        unfold fb_M_goesUp_197
        refine ok_bnd.mpr (ok_mono (two_ok (N := N) q1 hPB ⟨x0, x1⟩ q2 room) (fun u2 r2 h => ?_))
        obtain ⟨s1, ow3, kd3, s2, s3, -⟩ := h
        refine ok_bnd.mpr (ok_mono (put_ok (N := N) s2 s3 hop) (fun u3 _ h3 => ?_))
        obtain ⟨h31, h32⟩ := h3
        refine fin u3 _ ow3 kd3 h32 (FR.tr (FR.mo q3 (by decide) (by decide) (by decide) (by decide)) (FR.tr (FR.mo s1 (by decide) (by decide) (by decide) (by decide)) ?_)) (fun z hz => ?_)
        · rw [h31]; exact FR.wa (FR.wj FR.rf (by decide)) (by decide)
        · rw [h31, A_eq (by omega) (by omega), if_neg hz, A_wj, FR.A s1 (by decide), FR.A q3 (by decide)]
      exact ok_br.mpr ⟨fun _ => tail 7 (by omega) (by omega), fun _ => tail 8 (by omega) (by omega)⟩
end
end
section
def OTF (p : Nat) (u w : MS) : Prop := (∀ z, z ≠ p → A w 92 z = A u 92 z ∧ A w 94 z = A u 94 z ∧ A w 95 z = A u 95 z ∧ A w 106 z = A u 106 z) ∧ (∀ i, ¬ (60 * p ≤ i ∧ i < 60 * p + 60) → A w 98 i = A u 98 i ∧ A w 99 i = A u 99 i ∧ A w 100 i = A u 100 i ∧ A w 101 i = A u 101 i) ∧ (∀ i, ¬ (1600 * p ≤ i ∧ i < 1600 * p + 1600) → A w 102 i = A u 102 i ∧ A w 103 i = A u 103 i ∧ A w 104 i = A u 104 i ∧ A w 105 i = A u 105 i) ∧ (∀ i, A w 97 i = A u 97 i ∨ (-1 ≤ A w 97 i ∧ A w 97 i < 1400)) ∧ (∀ i, ¬ (60 * p ≤ i ∧ i < 60 * p + 60) → A w 96 i = A u 96 i) ∧ ∀ z, z ≠ p → A w 170 z = A u 170 z ∧ A w 110 z = A u 110 z ∧ w.2.2.2 111 z = u.2.2.2 111 z
theorem OTF.tr {p : Nat} {u v w : MS} (a : OTF p u v) (b : OTF p v w) : OTF p u w := by
  refine ⟨fun z hz => ?_, fun i hi => ?_, fun i hi => ?_, fun i => ?_, fun i hi => (b.2.2.2.2.1 i hi).trans (a.2.2.2.2.1 i hi), fun z hz => ⟨(b.2.2.2.2.2 z hz).1.trans (a.2.2.2.2.2 z hz).1, (b.2.2.2.2.2 z hz).2.1.trans (a.2.2.2.2.2 z hz).2.1, (b.2.2.2.2.2 z hz).2.2.trans (a.2.2.2.2.2 z hz).2.2⟩⟩
  · have h1 := a.1 z hz; have h2 := b.1 z hz; exact ⟨h2.1.trans h1.1, h2.2.1.trans h1.2.1, h2.2.2.1.trans h1.2.2.1, h2.2.2.2.trans h1.2.2.2⟩
  · have h1 := a.2.1 i hi; have h2 := b.2.1 i hi; exact ⟨h2.1.trans h1.1, h2.2.1.trans h1.2.1, h2.2.2.1.trans h1.2.2.1, h2.2.2.2.trans h1.2.2.2⟩
  · have h1 := a.2.2.1 i hi; have h2 := b.2.2.1 i hi; exact ⟨h2.1.trans h1.1, h2.2.1.trans h1.2.1, h2.2.2.1.trans h1.2.2.1, h2.2.2.2.trans h1.2.2.2⟩
  · rcases b.2.2.2.1 i with h | h
    · rw [h]; exact a.2.2.2.1 i
    · exact Or.inr h
theorem OTF_fr {p : Nat} {u w : MS} {is ls as js : List Nat} (f : FR is ls as js u w) (h : ∀ k, k ∈ [92, 94, 95, 96, 97, 98, 99, 100, 101, 102, 103, 104, 105, 106, 110, 170] → k ∉ as) (hj : 111 ∉ js := by decide) : OTF p u w :=
  ⟨fun z _ => ⟨FR.A f (h _ (by decide)), FR.A f (h _ (by decide)), FR.A f (h _ (by decide)), FR.A f (h _ (by decide))⟩, fun i _ => ⟨FR.A f (h _ (by decide)), FR.A f (h _ (by decide)), FR.A f (h _ (by decide)), FR.A f (h _ (by decide))⟩, fun i _ => ⟨FR.A f (h _ (by decide)), FR.A f (h _ (by decide)), FR.A f (h _ (by decide)), FR.A f (h _ (by decide))⟩, fun i => Or.inl (FR.A f (h _ (by decide))), fun i _ => FR.A f (h _ (by decide)), fun z _ => ⟨FR.A f (h _ (by decide)), FR.A f (h _ (by decide)), by rw [f.2.2.2 111 hj]⟩⟩
theorem OTF_9 {p : Nat} {u w : MS} {is ls as js : List Nat} (f : FR is ls as js u w) (h : ∀ k, k ∈ [96, 97, 110, 170] → k ∉ as) (hj : 111 ∉ js := by decide) : (∀ i, A w 97 i = A u 97 i ∨ (-1 ≤ A w 97 i ∧ A w 97 i < 1400)) ∧ (∀ i, ¬ (60 * p ≤ i ∧ i < 60 * p + 60) → A w 96 i = A u 96 i) ∧ ∀ z, z ≠ p → A w 170 z = A u 170 z ∧ A w 110 z = A u 110 z ∧ w.2.2.2 111 z = u.2.2.2 111 z := ⟨fun i => Or.inl (FR.A f (h _ (by decide))), fun i _ => FR.A f (h _ (by decide)), fun z _ => ⟨FR.A f (h _ (by decide)), FR.A f (h _ (by decide)), by rw [f.2.2.2 111 hj]⟩⟩
theorem OTF_at {p : Nat} {u w : MS} {is ls js : List Nat} {k0 i0 : Nat} (f : FR is ls [k0] js u w) (h : ∀ i, i ≠ i0 → A w k0 i = A u k0 i) (hk : (k0 ∈ [92, 94, 95, 106] ∧ i0 = p) ∨ (k0 ∈ [98, 99, 100, 101] ∧ 60 * p ≤ i0 ∧ i0 < 60 * p + 60) ∨ (k0 ∈ [102, 103, 104, 105] ∧ 1600 * p ≤ i0 ∧ i0 < 1600 * p + 1600)) (hj : 111 ∉ js := by decide) : OTF p u w := by
  have key : ∀ k i, (k = k0 → i ≠ i0) → A w k i = A u k i := fun k i e => by
    by_cases z : k = k0
    · subst z; exact h i (e rfl)
    · exact FR.A f (by simpa using z)
  refine ⟨fun z hz => ?_, fun i hi => ?_, fun i hi => ?_, OTF_9 f (fun k hk' => ?_) hj⟩
  · have : ∀ k, k ∈ [92, 94, 95, 106] → A w k z = A u k z := fun k hk' => key k z (fun e => by
      subst e
      rcases hk with ⟨-, y⟩ | ⟨y, -⟩ | ⟨y, -⟩
      · omega
      · simp at hk' y; omega
      · simp at hk' y; omega)
    exact ⟨this _ (by decide), this _ (by decide), this _ (by decide), this _ (by decide)⟩
  · have : ∀ k, k ∈ [98, 99, 100, 101] → A w k i = A u k i := fun k hk' => key k i (fun e => by
      subst e
      rcases hk with ⟨y, -⟩ | ⟨-, y⟩ | ⟨y, -⟩
      · simp at hk' y; omega
      · omega
      · simp at hk' y; omega)
    exact ⟨this _ (by decide), this _ (by decide), this _ (by decide), this _ (by decide)⟩
  · have : ∀ k, k ∈ [102, 103, 104, 105] → A w k i = A u k i := fun k hk' => key k i (fun e => by
      subst e
      rcases hk with ⟨y, -⟩ | ⟨y, -⟩ | ⟨-, y⟩
      · simp at hk' y; omega
      · simp at hk' y; omega
      · omega)
    exact ⟨this _ (by decide), this _ (by decide), this _ (by decide), this _ (by decide)⟩
  · rcases hk with ⟨y, -⟩ | ⟨y, -⟩ | ⟨y, -⟩ <;> (simp at hk' y ⊢; omega)
theorem OTF_97 {p i0 : Nat} {u : MS} {c : Int} (hc : -1 ≤ c ∧ c < 1400) : OTF p u (wa u 97 i0 c) := by
  have f : FR [] [] [97] [] u (wa u 97 i0 c) := FR.wa FR.rf (by decide)
  refine ⟨fun z _ => ⟨FR.A f (by decide), FR.A f (by decide), FR.A f (by decide), FR.A f (by decide)⟩, fun i _ => ⟨FR.A f (by decide), FR.A f (by decide), FR.A f (by decide), FR.A f (by decide)⟩, fun i _ => ⟨FR.A f (by decide), FR.A f (by decide), FR.A f (by decide), FR.A f (by decide)⟩, fun i => ?_, fun i _ => FR.A f (by decide), fun z _ => ⟨FR.A f (by decide), FR.A f (by decide), rfl⟩⟩
  rw [A_eq (by omega) (by omega)]
  by_cases e : i = i0
  · rw [if_pos e]; exact Or.inr hc
  · rw [if_neg e]; exact Or.inl rfl
theorem OTF_110 {p : Nat} {u : MS} {x : Int} (h1 : -2147483648 ≤ x) (h2 : x < 2147483648) : OTF p u (wa u 110 p x) := by
  have f : FR [] [] [110] [] u (wa u 110 p x) := FR.wa FR.rf (by decide)
  refine ⟨fun z _ => ⟨FR.A f (by decide), FR.A f (by decide), FR.A f (by decide), FR.A f (by decide)⟩, fun i _ => ⟨FR.A f (by decide), FR.A f (by decide), FR.A f (by decide), FR.A f (by decide)⟩, fun i _ => ⟨FR.A f (by decide), FR.A f (by decide), FR.A f (by decide), FR.A f (by decide)⟩, fun i => Or.inl (FR.A f (by decide)), fun i _ => FR.A f (by decide), fun z hz => ⟨FR.A f (by decide), by rw [A_eq h1 h2, if_neg hz], rfl⟩⟩
theorem OTF_111 {p : Nat} {u : MS} {x : Int64} : OTF p u (wj u 111 p x) := by
  have f : FR [] [] [] [111] u (wj u 111 p x) := FR.wj FR.rf (by decide)
  refine ⟨fun z _ => ⟨FR.A f (by decide), FR.A f (by decide), FR.A f (by decide), FR.A f (by decide)⟩, fun i _ => ⟨FR.A f (by decide), FR.A f (by decide), FR.A f (by decide), FR.A f (by decide)⟩, fun i _ => ⟨FR.A f (by decide), FR.A f (by decide), FR.A f (by decide), FR.A f (by decide)⟩, fun i => Or.inl (FR.A f (by decide)), fun i _ => FR.A f (by decide), fun z hz => ⟨FR.A f (by decide), FR.A f (by decide), by rw [J_wj, if_pos rfl, if_neg hz]⟩⟩
section
variable {Fv : Int64 → Int64 → Prop} {P : Int64 → Prop} {w w2 : MS} {PR N p n opM bnM bxM ND fr k tp mu CN PN SN UN FN : Nat} {ow kd ro rn rh cb pc ct pM pE : Nat → Nat} {T : TY} {C : CY}
def STP (Fv : Int64 → Int64 → Prop) (P : Int64 → Prop) (PR : Nat) (T : TY) (ND p mu : Nat) (u w : MS) : Prop := (ENDD Fv P PR p w ∨ ∃ m, m < mu ∧ ATN Fv P PR T ND p m w) ∧ STG p u w ∧ OTF p u w ∧ ∀ z, z ≠ p → A w 109 z = A u 109 z
theorem PRG_19 (hg : PRG w T C pM pE ND CN PN SN UN FN) (hn : n < ND) (h : A w 23 n = 19) : tG T n = 0 ∧ tH T (n + 1) = tH T n ∧ tM T (n + 1) = tM T n ∧ tL T (n + 1) = tL T n ∧ tK T (n + 1) = tK T n + 1 ∧ tG T (n + 1) = 0 ∧ tB T (n + 1) = tH T n ∧ tD T (n + 1) = tM T n ∧ tC T (n + 1) = n ∧ tR T (n + 1) < tR T n ∧ ∃ a : Nat, A w 25 n = a ∧ a < ND ∧ NX T n a (tH T n + 1) (tM T n) := by
  obtain ⟨-, ha, -⟩ := hg.2.2.1 n hn
  obtain ⟨-, -, -, -, -, -, -, h8, -⟩ := ha
  exact h8 h
theorem FRS_fall {i0 kk a : Nat} (h : FRS w T ND p fr ro rn rh cb pc ct k tp) (hi : i0 < fr) (hk : 0 < kk) (hc : CTI w T ND p ct i0 (cb i0) kk n (ro i0) (rn i0) (rh i0)) (hp : p < 24) (f : FR [136, 138, 140] [139] [89, 90, 92, 94, 95, 98, 106, 135] [88, 91, 93, 107, 134, 137] w w2) (h95 : A w2 95 p = ((i0 + 1 : Nat) : Int)) (h98 : ∀ j, A w2 98 j = if j = 60 * p + i0 then ((a : Nat) : Int) else A w 98 j) (hx : NX T n a (tH T n + 1) (tM T n)) : FRS w2 T ND p (i0 + 1) ro rn rh cb pc ct (tK T a) (tC T a) := by
  obtain ⟨⟨q1, q2, q3⟩, z, h5, h6, h7⟩ := h
  obtain ⟨n1, n2, n3, n4, n5, n6, n7, n8, n9⟩ := hx
  obtain ⟨t1, t2, t3, t4, t5, t6, t8, t9, t10, t11⟩ := hc (kk - 1) (by omega)
  have t10' := t10 (by omega)
  refine ⟨⟨by omega, by omega, h95⟩, z, fun i hi' => by rw [FR.A f (by decide), FR.A f (by decide), FR.A f (by decide)]; exact h5 i (by omega), fun i hi' => ?_, ?_⟩
  · obtain ⟨r1, r2⟩ := h6 i (by omega)
    obtain ⟨s1, s2, s3, s5, s6, s7, s8, s9⟩ := r2
    exact ⟨by rw [h98, if_neg (by omega)]; exact r1, s1, s2, s3, s5, s6, s7, s8, CTI_fr s9 f (by decide) (by decide) (by decide) (by decide) (by decide)⟩
  · rw [n4, n8, ← t10', t5, show i0 + 1 - 1 = i0 from by omega]
    have hc2 := CTI_fr hc f (by decide) (by decide) (by decide) (by decide) (by decide)
    intro j hj
    obtain ⟨y1, y2, y3, y4, y5, y6, y8, y9, y10, y11⟩ := hc2 j (by omega)
    exact ⟨y1, y2, y3, y4, y5, y6, y8, y9, fun e => t11 j (by omega), y11⟩
theorem goesUp_ok {S : SG_M_error} {t : Int64} {kn : Int} {rq : Nat} (i : MEI Fv P PR w p n ow kd opM bnM bxM) (h : FRS w T ND p fr ro rn rh cb pc ct k tp) (hg : PRG w T C pM pE ND CN PN SN UN FN) (hPB : PB P PR) (g : GT n ow kd P t) (hk : 0 ≤ kn ∧ kn ≤ 2) (h1 : 0 < k → ro (fr - 1) + tH T tp ≤ opM ∧ rn (fr - 1) + rh (fr - 1) + tM T tp ≤ bnM ∧ ∃ a : Nat, A w 25 tp = a ∧ tR T a < rq) (h2 : ro (fr - 1) ≤ opM ∧ rn (fr - 1) ≤ bnM) (h106 : A w 106 p = ((cb (fr - 1) + k : Nat) : Int)) (hk26 : k ≤ 26) (h109 : A w 109 p = 0) (h152 : F w 152 = 0) (hcl : CLK w (sR T pc (fr - 1) + rq) mu) (hN : 60000 ≤ N) : OK (fun w2 _ => STP Fv P PR T ND p mu w w2) (fm_M_goesUp N S w (I kn) t) := by
  have x4 := MEI_p i
  have m3 := i.2.2.1
  have hf := h.1
  have cbb := (h.2.2.1 (fr - 1) (by omega)).2.2.2.2.2.2
  unfold fm_M_goesUp fb_M_goesUp_0
  rw [I_F' m3, I_F' h152, lit0q, decE (by omega) (by omega) (by omega) (by omega), decide_eq_true rfl, br_tq, inb_at (k := 106) (n := 24) rfl (by omega) (by omega) (by decide), ck_t, I_tn (x := (p : Int)) (by omega) (by omega), Int.toNat_natCast, I_A' h106, decE (by omega) (by omega) (by omega) (by omega)]
  have en : ∀ x : Int, 0 ≤ x → x ≤ 2 → OK (fun w2 _ => STP Fv P PR T ND p mu w w2) (fb_M_goesUp_43 N S () w t (I x)) := fun x x0 x1 => by
    unfold fb_M_goesUp_43
    refine ok_bnd.mpr (ok_mono (ends_ok (N := N) i g ⟨x0, x1⟩) (fun v _ q => ok_some.mpr ⟨Or.inl q.1, Or.inr ⟨FR.mo q.2.1 (by decide) (by decide) (by decide) (by decide), q.1.2⟩, OTF_fr q.2.1 (by decide), q.2.2⟩))
  refine ok_br.mpr ⟨fun _ => ok_br.mpr ⟨fun _ => en 1 (by omega) (by omega), fun _ => ok_br.mpr ⟨fun _ => en 0 (by omega) (by omega), fun _ => en 2 (by omega) (by omega)⟩⟩, fun z => ?_⟩
  have z' : 0 < cb (fr - 1) + k := by have := of_decide_eq_false z; omega
  obtain ⟨i0, kk, tt, s1, s2, s3, s4, s5, s6, s7⟩ := CT_top hg h h1 h2 z'
  obtain ⟨t1, t2, t3, t4, t5, t6, t8, t9, t10, -⟩ := s4 (kk - 1) (by omega)
  have t10' := t10 (by omega)
  clear t10
  rw [t10'] at t2 t3 t4 t5 t6 t8 t9
  obtain ⟨-, -, -, -, -, -, -, -, -, -, a, pa1, pa2, pa3⟩ := PRG_19 hg t3 t4
  have t7 := (PRG_19 hg t3 t4).1
  have s7' := s7 a pa1
  clear s7
  have nd := hg.1.1
  have hro := (h.2.2.1 i0 (by omega))
  have hH := (hg.2.2.1 _ t3).1.1
  have hMM := (hg.2.2.1 _ t3).1.2.1
  rw [ck_t, ck_t, lt_e, lit1q, I_sub, show ((cb (fr - 1) + k : Nat) : Int) - 1 = ((cb i0 + (kk - 1) : Nat) : Int) from by omega, wa_e]
  have f5 : FR [] [] [106] [] w (wa w 106 p ((cb i0 + (kk - 1) : Nat) : Int)) := FR.wa FR.rf (by decide)
  have e5 : ∀ j, A (wa w 106 p ((cb i0 + (kk - 1) : Nat) : Int)) 106 j = if j = p then ((cb i0 + (kk - 1) : Nat) : Int) else A w 106 j := fun j => A_eq (by omega) (by omega)
  have i5 := MEI_fr i f5 (by decide) (by decide) (by decide) (by decide) (by decide) (by decide) (by decide) (by decide) (by decide) (by decide) (by decide) (by decide) (by decide) (by decide) (by decide) (by decide) (by decide) (by decide)
  generalize wa w 106 p ((cb i0 + (kk - 1) : Nat) : Int) = w5 at *
  rw [I_F' i5.2.2.1, inb_at (k := 106) (n := 24) rfl (by omega) (by omega) (by decide), ck_t, I_tn (x := (p : Int)) (by omega) (by omega), Int.toNat_natCast, I_A' (show A w5 106 p = _ by rw [e5, if_pos rfl]), lt_e, show (1600 : Int32) = I 1600 from rfl, I_mul, I_add, show (p : Int) * 1600 + ((cb i0 + (kk - 1) : Nat) : Int) = ((1600 * p + (cb i0 + (kk - 1)) : Nat) : Int) from by omega]
  have hc : cb i0 + (kk - 1) < 1600 := by omega
  generalize hcc : cb i0 + (kk - 1) = c at *
  rw [inb_at (k := 102) (n := 38400) rfl (by omega) (by omega) (by decide), ck_t, inb_at (k := 95) (n := 24) rfl (by omega) (by omega) (by decide), ck_t, lt_e, I_tn (x := ((1600 * p + c : Nat) : Int)) (by omega) (by omega), Int.toNat_natCast, I_A' (show A w5 102 (1600 * p + c) = ((i0 : Nat) : Int) by rw [FR.A f5 (by decide)]; exact t1), I_add, wa_e]
  have f7 : FR [] [] [95] [] w5 (wa w5 95 p ((i0 : Int) + 1)) := FR.wa FR.rf (by decide)
  have e7 : ∀ j, A (wa w5 95 p ((i0 : Int) + 1)) 95 j = if j = p then (i0 : Int) + 1 else A w5 95 j := fun j => A_eq (by omega) (by omega)
  have i7 := MEI_fr i5 f7 (by decide) (by decide) (by decide) (by decide) (by decide) (by decide) (by decide) (by decide) (by decide) (by decide) (by decide) (by decide) (by decide) (by decide) (by decide) (by decide) (by decide) (by decide)
  generalize wa w5 95 p ((i0 : Int) + 1) = w7 at *
  rw [I_F' i7.2.2.1, inb_at (k := 104) (n := 38400) rfl (by omega) (by omega) (by decide), ck_t, inb_at (k := 92) (n := 24) rfl (by omega) (by omega) (by decide), ck_t, lt_e, I_tn (x := (p : Int)) (by omega) (by omega), Int.toNat_natCast, I_A' (show A w7 104 (1600 * p + c) = ((ro i0 + tH T tt : Nat) : Int) by rw [FR.A f7 (by decide), FR.A f5 (by decide)]; exact t8), wa_e]
  have f8 : FR [] [] [92] [] w7 (wa w7 92 p ((ro i0 + tH T tt : Nat) : Int)) := FR.wa FR.rf (by decide)
  have e8 : ∀ j, j ≠ p → A (wa w7 92 p ((ro i0 + tH T tt : Nat) : Int)) 92 j = A w7 92 j := fun j hj => by rw [A_eq (by omega) (by omega), if_neg hj]
  have i8 := ops_less i7 (k := ro i0 + tH T tt) (by omega)
  generalize wa w7 92 p ((ro i0 + tH T tt : Nat) : Int) = w8 at *
  rw [I_F' i8.2.2.1, inb_at (k := 105) (n := 38400) rfl (by omega) (by omega) (by decide), ck_t, inb_at (k := 94) (n := 24) rfl (by omega) (by omega) (by decide), ck_t, lt_e, I_tn (x := (p : Int)) (by omega) (by omega), Int.toNat_natCast, I_A' (show A w8 105 (1600 * p + c) = ((rn i0 + rh i0 + tM T tt : Nat) : Int) by rw [FR.A f8 (by decide), FR.A f7 (by decide), FR.A f5 (by decide)]; exact t9), wa_e]
  have f9 : FR [] [] [94] [] w8 (wa w8 94 p ((rn i0 + rh i0 + tM T tt : Nat) : Int)) := FR.wa FR.rf (by decide)
  have e9 : ∀ j, j ≠ p → A (wa w8 94 p ((rn i0 + rh i0 + tM T tt : Nat) : Int)) 94 j = A w8 94 j := fun j hj => by rw [A_eq (by omega) (by omega), if_neg hj]
  have i9 := names_less i8 (k := rn i0 + rh i0 + tM T tt) (by omega)
  generalize wa w8 94 p ((rn i0 + rh i0 + tM T tt : Nat) : Int) = w9 at *
  have f59 : FR [] [] [92, 94, 95, 106] [] w w9 := FR.tr (FR.tr (FR.mo f5 (by decide) (by decide) (by decide) (by decide)) (FR.mo f7 (by decide) (by decide) (by decide) (by decide))) (FR.tr (FR.mo f8 (by decide) (by decide) (by decide) (by decide)) (FR.mo f9 (by decide) (by decide) (by decide) (by decide)))
  have o9 : OTF p w w9 := OTF.tr (OTF.tr (OTF_at f5 (i0 := p) (fun j hj => by rw [e5, if_neg hj]) (Or.inl ⟨by decide, rfl⟩)) (OTF_at f7 (i0 := p) (fun j hj => by rw [e7, if_neg hj]) (Or.inl ⟨by decide, rfl⟩))) (OTF.tr (OTF_at f8 (i0 := p) e8 (Or.inl ⟨by decide, rfl⟩)) (OTF_at f9 (i0 := p) e9 (Or.inl ⟨by decide, rfl⟩)))
  have h95 : A w9 95 p = ((i0 + 1 : Nat) : Int) := by rw [FR.A f9 (by decide), FR.A f8 (by decide), e7, if_pos rfl]; omega
  have h106' : A w9 106 p = ((c : Nat) : Int) := by rw [FR.A f9 (by decide), FR.A f8 (by decide), FR.A f7 (by decide), e5, if_pos rfl]
  have g9 := gU9 (N := N) (S := S) (c := c) (i0 := i0) (cn := tt) (a := a) i9 hPB g hk hc (by rw [FR.A f59 (by decide)]; exact t2) (by omega) (by rw [FR.A f59 (by decide)]; exact pa1) (by omega) h95 (by omega) (by omega) hN
  refine ok_mono g9 (fun v _ q => ?_)
  rcases q with ⟨q1, q2, q3⟩ | ⟨n2, ow2, kd2, q1, q2, q3, q4⟩
  · exact ⟨Or.inl q1, Or.inr ⟨FR.tr (FR.mo f59 (by decide) (by decide) (by decide) (by decide)) (FR.mo q2 (by decide) (by decide) (by decide) (by decide)), q1.2⟩, OTF.tr o9 (OTF_fr q2 (by decide)), fun z hz => by rw [q3 z hz, FR.A f59 (by decide)]⟩
  · have fv : FR [136, 138, 140] [139] [89, 90, 92, 94, 95, 98, 106, 135] [88, 91, 93, 107, 134, 137] w v := FR.tr (FR.mo f59 (by decide) (by decide) (by decide) (by decide)) (FR.mo q2 (by decide) (by decide) (by decide) (by decide))
    have frs := FRS_fall (n := tt) (a := a) h s1 s2 s4 x4 fv (by rw [FR.A q2 (by decide)]; exact h95) (fun j => by rw [q3, FR.A f59 (by decide)]) pa3
    obtain ⟨n1, n2', n3, n4, n5, n6, n7, n8, n9⟩ := pa3
    refine ⟨Or.inr ⟨mu - 1, ?_, i0 + 1, ro, rn, rh, cb, pc, ct, a, n2, ow2, kd2, bxM, ?_, frs, ?_, pa2, ?_, ?_, ?_, by rw [FR.A fv (by decide)]; exact h109, ?_, ?_⟩, Or.inl (FR.mo fv (by decide) (by decide) (by decide) (by decide)), ?_, fun z _ => FR.A fv (by decide)⟩
    · obtain ⟨c1, c2, c3, c4⟩ := hcl; omega
    · rw [show i0 + 1 - 1 = i0 from by omega, n1, n2']; exact q1
    · rw [show i0 + 1 - 1 = i0 from by omega, q3, if_pos rfl]
    · rw [show i0 + 1 - 1 = i0 from by omega, n3, t6]
    · rw [show i0 + 1 - 1 = i0 from by omega, n4, t5, FR.A q2 (by decide), h106']; omega
    · rw [n5]; exact t7
    · rw [FR.F fv (by decide)]; exact h152
    · obtain ⟨c1, c2, c3, c4⟩ := hcl
      unfold CLK
      rw [FR.F fv (by decide), FR.F fv (by decide), show i0 + 1 - 1 = i0 from by omega]
      refine ⟨c1, c2, c3, by omega⟩
    · refine OTF.tr o9 ?_
      refine ⟨fun z hz => ?_, fun j hj => ?_, fun j hj => ⟨FR.A q2 (by decide), FR.A q2 (by decide), FR.A q2 (by decide), FR.A q2 (by decide)⟩, OTF_9 q2 (by decide)⟩
      · refine ⟨?_, FR.A q2 (by decide), FR.A q2 (by decide), FR.A q2 (by decide)⟩
        exact q4 z hz
      · refine ⟨by rw [q3, if_neg (by omega)], FR.A q2 (by decide), FR.A q2 (by decide), FR.A q2 (by decide)⟩
end
end
section
section
variable {Fv : Int64 → Int64 → Prop} {P : Int64 → Prop} {w w2 : MS} {PR N p n opM bnM bxM ND fr k tp mu CN PN SN UN FN : Nat} {ow kd ro rn rh cb pc ct pM pE : Nat → Nat} {T : TY} {C : CY}
def KP : List Nat := [19, 23, 24, 25, 26, 27, 30, 31, 33, 35, 36, 37, 38, 40, 41, 42, 43, 45, 48, 50, 53, 54, 55, 57]
theorem PRG_fr {is ls as js : List Nat} (h : PRG w T C pM pE ND CN PN SN UN FN) (f : FR is ls as js w w2) (hi : ∀ k, k ∈ [14, 52, 56] → k ∉ is) (ha : ∀ k, k ∈ KP → k ∉ as) : PRG w2 T C pM pE ND CN PN SN UN FN := by
  have e : ∀ k, k ∈ KP → ∀ i, A w2 k i = A w k i := fun k hk i => FR.A f (ha k hk)
  have e19 := e 19 (by decide)
  have e23 := e 23 (by decide)
  have e24 := e 24 (by decide)
  have e25 := e 25 (by decide)
  have e26 := e 26 (by decide)
  have e27 := e 27 (by decide)
  have e30 := e 30 (by decide)
  have e31 := e 31 (by decide)
  have e33 := e 33 (by decide)
  have e35 := e 35 (by decide)
  have e36 := e 36 (by decide)
  have e37 := e 37 (by decide)
  have e38 := e 38 (by decide)
  have e40 := e 40 (by decide)
  have e41 := e 41 (by decide)
  have e42 := e 42 (by decide)
  have e43 := e 43 (by decide)
  have e45 := e 45 (by decide)
  have e48 := e 48 (by decide)
  have e50 := e 50 (by decide)
  have e53 := e 53 (by decide)
  have e54 := e 54 (by decide)
  have e55 := e 55 (by decide)
  have e57 := e 57 (by decide)
  have f14 : F w2 14 = F w 14 := FR.F f (hi 14 (by decide))
  have f52 : F w2 52 = F w 52 := FR.F f (hi 52 (by decide))
  have f56 : F w2 56 = F w 56 := FR.F f (hi 56 (by decide))
  have pw : ∀ pM pE L q, PW w pM pE PN SN L q → PW w2 pM pE PN SN L q := fun pM pE L q hq => by
    unfold PW CHN at hq ⊢
    simp only [e33, e35, e36, e37, e38]
    exact hq
  have st : STR w2 SN := ⟨h.2.1.1, fun s hs => by rw [e19, e19]; exact h.2.1.2 s hs⟩
  have cls : ∀ many hg hb m l k cc r a, CLS C w CN many hg hb m l k cc r a → CLS C w2 CN many hg hb m l k cc r a := fun many hg hb m l k cc r a hc => by
    unfold CLS at hc ⊢; simp only [e41]; exact hc
  have pat : ∀ L m m2 a, PAT w pM pE PN SN L m m2 a → PAT w2 pM pE PN SN L m m2 a := fun L m m2 a hp => by
    obtain ⟨q, pM, pE, q1, q2, q3, q4, q5, q6, q7⟩ := hp
    exact ⟨q, pM, pE, q1, q2, q3, q4, q5, q6, fun k h1 h2 => pw _ _ _ _ (q7 k h1 h2)⟩
  have pats : ∀ L m m2 many a, PATS w pM pE PN SN L m m2 many a → PATS w2 pM pE PN SN L m m2 many a := fun L m m2 many a hp => by
    rcases hp with hp | ⟨q0, q, pM, pE, q1, q2, q3, q4, q5, q6, q7, q8⟩
    · exact Or.inl hp
    · refine Or.inr ⟨q0, q, pM, pE, q1, ?_, q3, q4, q5, q6, q7, fun k h1 h2 => pw _ _ _ _ (q8 k h1 h2)⟩
      unfold CHN at q2 ⊢; simp only [e37]; exact ⟨trivial, q2.2⟩
  obtain ⟨h1, h2, h3, h4, h5, h6⟩ := h
  refine ⟨by rw [f52, f56]; exact h1, st, fun n hn => ?_, fun c hc => ?_, fun g hg => ?_, fun u hu => ?_⟩
  · obtain ⟨a1, a2, a3⟩ := h3 n hn
    refine ⟨by unfold NW at a1 ⊢; simp only [e23, e24, e25, e45]; exact a1, ?_, by unfold WNb at a3 ⊢; simp only [e23, e25, e26, e27, e30, e48, f14]; exact a3⟩
    unfold WNa at a2 ⊢
    simp only [e23, e25, e26, e27, e30, e31, e54, e55, e57]
    obtain ⟨b1, b2, b3, b4, b5, b6, b7, b8, b9, b10, b11, b12, b13, b14, b15, b16⟩ := a2
    refine ⟨b1, b2, b3, b4, fun z => ?_, b6, b7, b8, b9, fun z => ?_, fun z => ?_, fun z => ?_, b13, b14, b15, b16⟩
    · obtain ⟨y1, y2, m2, y3, y4⟩ := b5 z
      exact ⟨y1, y2, m2, pat _ _ _ _ y3, y4⟩
    · obtain ⟨y1, y2, y3, r, y4, y5⟩ := b10 z
      exact ⟨y1, y2, y3, r, y4, cls _ _ _ _ _ _ _ _ _ y5⟩
    · obtain ⟨y1, y3, r, y4, y5⟩ := b11 z
      exact ⟨y1, y3, r, y4, cls _ _ _ _ _ _ _ _ _ y5⟩
    · obtain ⟨y1, y3, y4, y5⟩ := b12 z
      refine ⟨y1, y3, ?_, y5⟩
      rcases y4 with y4 | ⟨r, y4, y6⟩
      · exact Or.inl y4
      · exact Or.inr ⟨r, y4, cls _ _ _ _ _ _ _ _ _ y6⟩
  · obtain ⟨⟨many, a1, a2, a3⟩, a4⟩ := h4 c hc
    unfold CWD
    simp only [e40, e41, e42, e43, e45]
    exact ⟨⟨many, a1, a2, pats _ _ _ _ _ a3⟩, a4⟩
  · obtain ⟨a, r, a1, a2, a3⟩ := h5 g hg
    exact ⟨a, r, by rw [e48]; exact a1, a2, by rw [e50]; exact cls _ _ _ _ _ _ _ _ _ a3⟩
  · obtain ⟨a, hh, r, a1, a2, a3, a4, a5, a6⟩ := h6 u hu
    exact ⟨a, hh, r, by rw [e54]; exact a1, a2, by rw [e55]; exact a3, by rw [e55]; exact a4, a5, by rw [e53]; exact cls _ _ _ _ _ _ _ _ _ a6⟩
def RCV (w : MS) (T : TY) (ND p hg m l k tp r : Nat) : Prop := ∃ n : Nat, F w 159 = n ∧ n < ND ∧ A w 23 n = 27 ∧ tH T n = hg ∧ tM T n = m ∧ tL T n = l ∧ tK T n = k ∧ tC T n = tp ∧ tG T n = 0 ∧ r + 1 = tR T n ∧ (A w 31 n = -1 → w.2.2.2 111 p = -1)
def TRS (w : MS) (T : TY) (C : CY) (ND CN p ro rn rh k tp s many hg hb m r bx : Nat) : Prop :=
  (F w 153 = s ∧ s ≤ 3 ∧ hg = hb + (if s = 0 then many else if s = 1 then 1 else 0) ∧ (s = 1 ∨ s = 3 → many = 1) ∧ (s = 2 → many = 0) ∧ many ≤ 6 ∧ k ≤ 26 ∧ hg ≤ 760 ∧ m + rh ≤ 40 ∧ r < 16000) ∧ F w 156 = ((rn + rh + m : Nat) : Int) ∧
  (F w 154 = -1 ∨ CLS C w CN many hg hb m rh k tp r (F w 154)) ∧
  (s = 3 → CLS C w CN many hg hb m rh k tp r (F w 155) ∧ 0 ≤ F w 158 ∧ F w 158 < bx ∧ RCV w T ND p hg m rh k tp r) ∧
  (0 < k → tH T tp ≤ hb ∧ tM T tp ≤ m ∧ ∃ a : Nat, A w 25 tp = a ∧ tR T a < r) ∧ F w 149 = F w 150 ∧ F w 151 = 0
theorem PW_fr {is ls as js : List Nat} {L q : Nat} (h : PW w pM pE PN SN L q) (f : FR is ls as js w w2) (ha : ∀ k, k ∈ [33, 35, 36, 37, 38] → k ∉ as) : PW w2 pM pE PN SN L q := by
  have e : ∀ k, k ∈ [33, 35, 36, 37, 38] → ∀ i, A w2 k i = A w k i := fun k hk i => FR.A f (ha k hk)
  have e33 := e 33 (by decide)
  have e35 := e 35 (by decide)
  have e36 := e 36 (by decide)
  have e37 := e 37 (by decide)
  have e38 := e 38 (by decide)
  unfold PW CHN at h ⊢
  simp only [e33, e35, e36, e37, e38]
  exact h
theorem pM_mono {L q e : Nat} (h : ∀ k, q ≤ k → k < e → PW w pM pE PN SN L k) : ∀ j, q + j ≤ e → pM q ≤ pM (q + j) := by
  intro j
  induction j with
  | zero => intro _; exact Nat.le_refl _
  | succ j ih =>
    intro hj
    have a := ih (by omega)
    obtain ⟨-, -, b1, b2, c1, c2, c3, c4, c5, c6⟩ := h (q + j) (by omega) (by omega)
    have : pM (q + j) ≤ pM (q + j + 1) := by
      by_cases z0 : A w 33 (q + j) = 0
      · rw [(c1 (Or.inl z0)).1]; exact Nat.le_refl _
      by_cases z3 : A w 33 (q + j) = 3
      · rw [(c1 (Or.inr z3)).1]; exact Nat.le_refl _
      by_cases z1 : A w 33 (q + j) = 1
      · rw [(c2 z1).1]; omega
      by_cases z2 : A w 33 (q + j) = 2
      · rw [(c3 z2).1]; exact Nat.le_refl _
      by_cases z4 : A w 33 (q + j) = 4
      · rw [(c4 z4).1]; exact Nat.le_refl _
      by_cases z5 : A w 33 (q + j) = 5
      · rw [(c5 z5).1]; exact Nat.le_refl _
      · rw [(c6 (by omega)).1]; exact Nat.le_refl _
    rw [show q + (j + 1) = q + j + 1 from by omega]
    omega
theorem chi_ge {L q e : Nat} (h : ∀ k, q ≤ k → k < e → PW w pM pE PN SN L k) : ∀ j, (∀ k, k < j → chi pE q k < e) → q ≤ chi pE q j := by
  intro j
  induction j with
  | zero => intro _; exact Nat.le_refl _
  | succ j ih =>
    intro hj
    have a := ih (fun k hk => hj k (by omega))
    have b := (h _ a (hj j (by omega))).1
    show q ≤ pE (chi pE q j)
    omega
theorem fp_loop {q many rr rx : Nat} (hpw : ∀ k, q ≤ k → k < chi pE q many → PW w pM pE PN SN rx k) (hch : CHN w pE q many (chi pE q many)) (heP : chi pE q many ≤ PN) (hPN : PN ≤ 2900) (hF : FVH Fv) (hat : ATM w) (hP : ∀ t, P t → PA w t) (hS : STR w SN) (hfr : FRA w p fr rr rx) (hcap : ∀ k, q ≤ k → k ≤ chi pE q many → rr + rx + pM k ≤ 2450) (ho : many ≤ opM) (hm : many ≤ 6) (hN : 6000 ≤ N) : ∀ (fu j : Nat) (v : MS) (x : Int32), FQ p w v → MEI Fv P PR v p n ow kd opM (rr + rx + pM (chi pE q j)) bxM → j ≤ many → (j < many → x = I (chi pE q j)) → many - j < fu →
    OK (fun w2 r2 => FQ p w w2 ∧ ((r2 = I 1 ∧ MEI Fv P PR w2 p n ow kd opM (rr + rx + pM (chi pE q many)) bxM) ∨ (r2 = I 0 ∧ ∃ b2, MEI Fv P PR w2 p n ow kd opM b2 bxM ∧ rr + rx + pM q ≤ b2))) (gg_M_fitsPart N fu v x (I ((many : Int) - 1 - j))) := by
  intro fu
  induction fu with
  | zero => intro j v x _ _ _ _ z; exact absurd z (Nat.not_lt_zero _)
  | succ fu ih =>
    intro j v x fv iv hj hx hf
    show OK _ (fb_M_fitsPart_85 N (gg_M_fitsPart N fu) v x (I ((many : Int) - 1 - j)))
    unfold fb_M_fitsPart_85
    rw [lit0q, decL (by omega) (by omega) (by omega) (by omega)]
    refine ok_br.mpr ⟨fun z => ?_, fun z => ?_⟩
    · have ej : j = many := by have := of_decide_eq_true z; omega
      subst ej
      exact ok_ck.mpr ⟨rfl, ok_some.mpr ⟨fv, Or.inl ⟨rfl, iv⟩⟩⟩
    · have ej : j < many := by have := of_decide_eq_false z; omega
      obtain ⟨t1, t2⟩ := top_ok (N := N) (k := many - 1 - j) iv (by omega)
      rw [show ((many : Int) - 1 - j) = ((many - 1 - j : Nat) : Int) from by omega, t1, bnd_so, hx ej]
      have ge := chi_ge hpw j (fun k hk => hch.2.1 k (by omega))
      have lt1 := hch.2.1 j ej
      have le1 : chi pE q (j + 1) ≤ chi pE q many := by
        by_cases e : j + 1 < many
        · have := hch.2.1 (j + 1) e; omega
        · have : j + 1 = many := by omega
          rw [this]; exact Nat.le_refl _
      have ff := fits_ok (N := N) (q := chi pE q j) (e := chi pE q (j + 1)) (pM := pM) (pE := pE) (PN := PN) (SN := SN) (fr := fr) (rn := rr) (rh := rx) iv hPN (by omega) rfl (hpw _ ge lt1).1 (fun k h1 h2 => PW_fr (hpw k (by omega) (by omega)) fv.1 (by decide)) hF (ATM_fr hat fv.1 (by decide) (by decide)) (PA_fr hP fv.1 (by decide)) ⟨hS.1, fun s hs => by rw [FR.A fv.1 (by decide), FR.A fv.1 (by decide)]; exact hS.2 s hs⟩ ⟨by rw [FR.A fv.1 (by decide)]; exact hfr.1, hfr.2.1, hfr.2.2.1, by rw [FR.A fv.1 (by decide)]; exact hfr.2.2.2.1, by rw [FR.A fv.1 (by decide)]; exact hfr.2.2.2.2⟩ (fun k h1 h2 => hcap k (by omega) (by omega)) rfl t2 hN
      refine ok_bnd.mpr (ok_mono ff (fun u r h => ?_))
      obtain ⟨h1, h2⟩ := h
      have fu2 : FQ p w u := ⟨FR.tr fv.1 h1.1, fun z hz => by rw [h1.2 z hz]; exact fv.2 z hz⟩
      refine ok_br.mpr ⟨fun z0 => ?_, fun z0 => ?_⟩
      · rcases h2 with ⟨h2, h3⟩ | ⟨h2, b2, h3, c2, h4, h5, h6⟩
        · exfalso
          rw [h2] at z0
          exact absurd (of_decide_eq_true z0) (by decide)
        · refine ok_ck.mpr ⟨rfl, ok_some.mpr ⟨fu2, Or.inr ⟨rfl, b2, h3, ?_⟩⟩⟩
          have := pM_mono hpw (c2 - q) (by omega)
          rw [show q + (c2 - q) = c2 from by omega] at this
          omega
      · rcases h2 with ⟨h2, h3⟩ | ⟨h2, -⟩
        · have rP : chi pE q j < 2900 := by omega
          refine ok_ck.mpr ⟨inb_at (k := 37) (n := 5000) rfl (by omega) (by omega) (by decide), ?_⟩
          rw [I_tn (by omega) (by omega), Int.toNat_natCast, litm1q, I_add, show ((many - 1 - j : Nat) : Int) + -1 = (many : Int) - 1 - ((j + 1 : Nat) : Int) from by omega]
          refine ih (j + 1) u _ fu2 h3 (by omega) (fun e => ?_) (by omega)
          rw [I_A' (show A u 37 (chi pE q j) = ((chi pE q (j + 1) : Nat) : Int) by rw [FR.A fu2.1 (by decide)]; exact hch.2.2 j e)]
        · exfalso
          rw [h2] at z0
          exact absurd rfl (of_decide_eq_false z0)
theorem fitsPart_ok {s many hg hb m r : Nat} (i : MEI Fv P PR w p n ow kd (ro (fr - 1) + hg) (rn (fr - 1) + rh (fr - 1) + m) bxM) (hg' : PRG w T C pM pE ND CN PN SN UN FN) (hF : FVH Fv) (hat : ATM w) (hP : ∀ t, P t → PA w t) (h : FRS w T ND p fr ro rn rh cb pc ct k tp) (ht : TRS w T C ND CN p (ro (fr - 1)) (rn (fr - 1)) (rh (fr - 1)) k tp s many hg hb m r bxM) {c : Nat} (hc : F w 154 = c) (hN : 6000 ≤ N) :
    OK (fun w2 r2 => FQ p w w2 ∧ ((r2 = I 1 ∧ MEI Fv P PR w2 p n ow kd (ro (fr - 1) + hg) (rn (fr - 1) + rh (fr - 1) + cN C c) bxM) ∨ (r2 = I 0 ∧ ∃ b2, MEI Fv P PR w2 p n ow kd (ro (fr - 1) + hg) b2 bxM ∧ rn (fr - 1) + rh (fr - 1) + m ≤ b2))) (fm_M_fitsPart N w) := by
  have x4 := MEI_p i
  obtain ⟨⟨s1, s2, s3, s4, s42, s5, s6, s7, s8, s9⟩, u1, u2, u3, u4⟩ := ht
  have u2' : CLS C w CN many hg hb m (rh (fr - 1)) k tp r (F w 154) := by
    rcases u2 with u2 | u2
    · omega
    · exact u2
  obtain ⟨c', c1, c2, c3, c4, c5, c6, c7, c8, c9, c10⟩ := u2'
  have ec : c' = c := by omega
  subst ec
  obtain ⟨⟨many', d1, d2, d3⟩, ⟨d4, d5, d6⟩, -⟩ := hg'.2.2.2.1 c' c2
  have em : many' = many := by omega
  subst em
  have hS := hg'.2.1
  have hPN := hg'.1.2.2.1
  have hfr : FRA w p fr (rn (fr - 1)) (rh (fr - 1)) := by
    have q := h.2.2.1 (fr - 1) (by have := h.1; omega)
    exact ⟨h.1.2.2, h.1.1, h.1.2.1, q.2.1, q.2.2.1⟩
  have hrn := (h.2.2.1 (fr - 1) (by have := h.1; omega)).2.2.2.2.2.1
  have hfr60 := h.1
  rw [c7, c6] at d3
  have cn := hg'.1.2.1
  unfold fm_M_fitsPart fb_M_fitsPart_0 fb_M_fitsPart_70
  have e154 : w.1 154 = I c' := I_F' hc
  rw [I_F' s1, e154, show (2 : Int32) = I 2 from rfl, show (3 : Int32) = I 3 from rfl, lit1q, decE (by omega) (by omega) (by omega) (by omega), decE (by omega) (by omega) (by omega) (by omega), decE (by omega) (by omega) (by omega) (by omega)]
  have loop : many' ≤ ro (fr - 1) + hg → OK (fun w2 r2 => FQ p w w2 ∧ ((r2 = I 1 ∧ MEI Fv P PR w2 p n ow kd (ro (fr - 1) + hg) (rn (fr - 1) + rh (fr - 1) + cN C c') bxM) ∨ (r2 = I 0 ∧ ∃ b2, MEI Fv P PR w2 p n ow kd (ro (fr - 1) + hg) b2 bxM ∧ rn (fr - 1) + rh (fr - 1) + m ≤ b2))) (gg_M_fitsPart N N w (I (A w 40 c')) (I ((many' : Int) - 1))) := fun ho => by
    rcases d3 with ⟨d3, d3'⟩ | ⟨-, q, pM, pE, q1, q2, q3, q4, q5, q6, q7, q8⟩
    · obtain ⟨N', hN'⟩ : ∃ N', N = N' + 1 := ⟨N - 1, by omega⟩
      have e : gg_M_fitsPart N N = fb_M_fitsPart_85 N (gg_M_fitsPart N N') := by conv => lhs; rw [hN']; unfold gg_M_fitsPart
                                                                                 rw [← hN']
      rw [e]
      unfold fb_M_fitsPart_85
      rw [lit0q, decL (by omega) (by omega) (by omega) (by omega), decide_eq_true (by omega), br_tq]
      exact ok_ck.mpr ⟨rfl, ok_some.mpr ⟨⟨FR.rf, fun _ _ => rfl⟩, Or.inl ⟨rfl, by rw [d3']; exact i⟩⟩⟩
    · have := fp_loop (N := N) q8 q2 q4 hPN hF hat hP hS hfr (fun k h1 h2 => by have := q7 k h1 h2; omega) ho s5 hN N 0 w (I (A w 40 c')) ⟨FR.rf, fun _ _ => rfl⟩ (by rw [show chi pE q 0 = q from rfl, q5]; exact i) (by omega) (fun _ => by rw [q1]; rfl) (by omega)
      rw [q6, q5, show (many' : Int) - 1 - ((0 : Nat) : Int) = (many' : Int) - 1 from by omega] at this
      exact this
  refine ok_br.mpr ⟨fun z2 => ?_, fun z2 => ok_br.mpr ⟨fun z3 => ?_, fun z3 => ok_br.mpr ⟨fun z1 => ?_, fun z1 => ?_⟩⟩⟩
  · have es : s = 2 := by have := of_decide_eq_true z2; omega
    have e0 := s42 es
    refine ok_ck.mpr ⟨rfl, ok_some.mpr ⟨⟨FR.rf, fun _ _ => rfl⟩, Or.inl ⟨rfl, ?_⟩⟩⟩
    rcases d3 with ⟨-, d3⟩ | ⟨d3, -⟩
    · rw [d3]; exact i
    · omega
  · have es : s = 3 := by have := of_decide_eq_true z3; omega
    have e1 := s4 (Or.inr es)
    obtain ⟨-, v1, v2, -⟩ := u3 es
    obtain ⟨k8, hk8⟩ : ∃ k8 : Nat, F w 158 = k8 := ⟨(F w 158).toNat, by omega⟩
    have x10 := i.2.2.2.2.2.2.2.2.2.2.2.2.2.2.1
    have bx30 := i.2.2.2.2.2.2.2.2.2.2.2.1.2
    rcases d3 with ⟨d3, -⟩ | ⟨-, q, pM, pE, q1, q2, q3, q4, q5, q6, q7, q8⟩
    · omega
    rw [e1] at q2 q3 q4 q6 q7 q8
    have ch1 : chi pE q 1 = pE q := rfl
    rw [ch1] at q2 q3 q4 q6 q7 q8
    refine ok_ck.mpr ⟨inb_at (k := 40) (n := 1400) rfl (by omega) (by omega) (by decide), ?_⟩
    rw [I_F' i.2.2.1, I_F' hk8, show (30 : Int32) = I 30 from rfl, I_mul, I_add]
    refine ok_ck.mpr ⟨inb_at (k := 107) (n := 720) rfl (by omega) (by omega) (by decide), ?_⟩
    rw [I_tn (x := (c' : Int)) (by omega) (by omega), Int.toNat_natCast, I_A' q1, I_tn (by omega) (by omega), show ((p : Int) * 30 + (k8 : Int)).toNat = 30 * p + k8 from by omega]
    refine ok_bnd.mpr (ok_mono (fits_ok (N := N) (q := q) (e := pE q) (pM := pM) (pE := pE) (PN := PN) (SN := SN) i hPN q4 rfl q3 q8 hF hat hP hS hfr (fun k h1 h2 => by have := q7 k h1 h2; omega) (by rw [q5]) (x10 k8 (by omega)) hN) (fun u r h => ?_))
    obtain ⟨h1, h2⟩ := h
    rcases h2 with ⟨h2, h3⟩ | ⟨h2, b2, h3, c2', h4, h5, h6⟩
    · subst h2
      exact ok_ck.mpr ⟨rfl, ok_some.mpr ⟨h1, Or.inl ⟨rfl, by rw [← q6]; exact h3⟩⟩⟩
    · subst h2
      refine ok_ck.mpr ⟨rfl, ok_some.mpr ⟨h1, Or.inr ⟨rfl, b2, h3, ?_⟩⟩⟩
      have := pM_mono q8 (c2' - q) (by omega)
      rw [show q + (c2' - q) = c2' from by omega] at this
      omega
  · have es : s = 1 := by have := of_decide_eq_true z1; omega
    have e1 := s4 (Or.inl es)
    refine ok_ck.mpr ⟨inb_at (k := 40) (n := 1400) rfl (by omega) (by omega) (by decide), ok_lt.mpr ?_⟩
    rw [I_tn (by omega) (by omega), Int.toNat_natCast, I_A (k := 40), I_sub]
    have := loop (by rw [es, if_neg (by omega), if_pos rfl] at s3; omega)
    rw [e1] at this
    exact this
  · have es : s = 0 := by have := of_decide_eq_false z1; have := of_decide_eq_false z2; have := of_decide_eq_false z3; omega
    refine ok_ck.mpr ⟨inb_at (k := 41) (n := 1400) rfl (by omega) (by omega) (by decide), ok_ck.mpr ⟨inb_at (k := 40) (n := 1400) rfl (by omega) (by omega) (by decide), ok_lt.mpr ?_⟩⟩
    rw [I_tn (by omega) (by omega), Int.toNat_natCast, I_A (k := 40), I_A' d1, I_sub]
    exact loop (by rw [es, if_pos rfl] at s3; omega)
end
end
section
def ATQ (Fv : Int64 → Int64 → Prop) (P : Int64 → Prop) (PR : Nat) (T : TY) (ND p : Nat) (w : MS) (fr : Nat) (ro rn rh cb pc ct : Nat → Nat) (q n : Nat) (ow kd : Nat → Nat) (bxM : Nat) : Prop := MEI Fv P PR w p n ow kd (ro (fr - 1) + tH T q) (rn (fr - 1) + rh (fr - 1) + tM T q) bxM ∧ FRS w T ND p fr ro rn rh cb pc ct (tK T q) (tC T q) ∧ A w 98 (60 * p + (fr - 1)) = ((q : Nat) : Int) ∧ q < ND ∧ rh (fr - 1) = tL T q ∧ A w 106 p = ((cb (fr - 1) + tK T q : Nat) : Int)
def CLG (w : MS) (r : Nat) (e : Int) (mu : Nat) : Prop := 0 ≤ F w 165 ∧ F w 165 ≤ F w 164 ∧ F w 164 ≤ 500 ∧ (F w 164 - F w 165) * 1000000000000 + 500000 * (r : Int) + e ≤ mu
def MODE (w : MS) (T : TY) (C : CY) (ND CN p ro rn rh sr q bx mu : Nat) : Prop := (tG T q = 0 ∧ F w 152 = 0 ∧ CLG w (sr + tR T q) 0 mu) ∨ (F w 152 = 1 ∧ ∃ c s many hg hb m r, TRS w T C ND CN p ro rn rh (tK T q) (tC T q) s many hg hb m r bx ∧ tG T q = c + 1 ∧ F w 154 = ((c : Nat) : Int) ∧ F w 157 = ((ro + hg : Nat) : Int) ∧ CLG w (sr + r) ((if s = 3 then (bx : Int) - F w 158 else 0) * 16002 + tR T q + 1) mu)
def STE (Fv : Int64 → Int64 → Prop) (P : Int64 → Prop) (PR : Nat) (T : TY) (C : CY) (ND CN p mu : Nat) (w : MS) : Prop := ∃ fr ro rn rh cb pc ct q n ow kd bxM, ATQ Fv P PR T ND p w fr ro rn rh cb pc ct q n ow kd bxM ∧ A w 109 p = 0 ∧ MODE w T C ND CN p (ro (fr - 1)) (rn (fr - 1)) (rh (fr - 1)) (sR T pc (fr - 1)) q bxM mu
def WAI (Fv : Int64 → Int64 → Prop) (P : Int64 → Prop) (PR : Nat) (T : TY) (ND p : Nat) (w : MS) : Prop := ∃ fr ro rn rh cb pc ct q n ow kd bxM, ATQ Fv P PR T ND p w fr ro rn rh cb pc ct q n ow kd bxM ∧ A w 109 p = 1 ∧ tG T q = 0 ∧ A w 23 q = 27 ∧ (A w 31 q = -1 → w.2.2.2 111 p = -1) ∧ 0 ≤ A w 110 p
def RES (Fv : Int64 → Int64 → Prop) (P : Int64 → Prop) (PR : Nat) (T : TY) (C : CY) (ND CN p mu : Nat) (u w : MS) : Prop := (ENDD Fv P PR p w ∨ WAI Fv P PR T ND p w ∨ ∃ m, m < mu ∧ STE Fv P PR T C ND CN p m w) ∧ STG p u w ∧ OTF p u w ∧ ∀ z, z ≠ p → A w 109 z = A u 109 z
section
variable {Fv : Int64 → Int64 → Prop} {P : Int64 → Prop} {w w2 : MS} {PR N p n opM bnM bxM ND fr k tp mu CN PN SN UN FN : Nat} {ow kd ro rn rh cb pc ct pM pE : Nat → Nat} {T : TY} {C : CY}
theorem RES_stp (h : STP Fv P PR T ND p mu w w2) : RES Fv P PR T C ND CN p mu w w2 := by
  obtain ⟨h1, h2⟩ := h
  refine ⟨?_, h2⟩
  rcases h1 with h1 | ⟨m, hm, fr, ro, rn, rh, cb, pc, ct, q, n, ow, kd, bxM, q1, q2, q3, q4, q5, q6, q7, q8, q9, q10⟩
  · exact Or.inl h1
  · refine Or.inr (Or.inr ⟨m, hm, fr, ro, rn, rh, cb, pc, ct, q, n, ow, kd, bxM, ⟨q1, q2, q3, q4, q5, q6⟩, q8, Or.inl ⟨q7, q9, q10.1, q10.2.1, q10.2.2.1, ?_⟩⟩)
    have := q10.2.2.2
    omega
theorem RES.tr {u : MS} {m2 : Nat} (a : STF0 u w) (b : OTF p u w) (c : ∀ z, z ≠ p → A w 109 z = A u 109 z) (h : RES Fv P PR T C ND CN p m2 w w2) (hm : m2 ≤ mu) : RES Fv P PR T C ND CN p mu u w2 := by
  obtain ⟨h1, h2, h3, h4⟩ := h
  refine ⟨?_, STG.tr a h2, OTF.tr b h3, fun z hz => by rw [h4 z hz, c z hz]⟩
  rcases h1 with h1 | h1 | ⟨m, h1, h5⟩
  · exact Or.inl h1
  · exact Or.inr (Or.inl h1)
  · exact Or.inr (Or.inr ⟨m, by omega, h5⟩)
theorem FRS_98 {is ls as js : List Nat} (h : FRS w T ND p fr ro rn rh cb pc ct k tp) (f : FR is ls as js w w2) (ha : ∀ k, k ∈ [23, 95, 99, 100, 101, 102, 103, 104, 105] → k ∉ as) (h98 : ∀ j, j ≠ 60 * p + (fr - 1) → A w2 98 j = A w 98 j) : FRS w2 T ND p fr ro rn rh cb pc ct k tp := by
  obtain ⟨⟨h1, h2, h3⟩, h4, h5, h6, h7⟩ := h
  refine ⟨⟨h1, h2, by rw [FR.A f (ha _ (by decide))]; exact h3⟩, h4, fun i hi => by rw [FR.A f (ha _ (by decide)), FR.A f (ha _ (by decide)), FR.A f (ha _ (by decide))]; exact h5 i hi, fun i hi => ?_, CTI_fr h7 f (ha _ (by decide)) (ha _ (by decide)) (ha _ (by decide)) (ha _ (by decide)) (ha _ (by decide))⟩
  obtain ⟨q1, q2, q3, q4, q6, q7, q8, q9, q10⟩ := h6 i hi
  exact ⟨by rw [h98 _ (by omega)]; exact q1, q2, q3, q4, q6, q7, q8, q9, CTI_fr q10 f (ha _ (by decide)) (ha _ (by decide)) (ha _ (by decide)) (ha _ (by decide)) (ha _ (by decide))⟩
theorem at_ok {q : Nat} (i : MEI Fv P PR w p n ow kd (ro (fr - 1) + tH T q) (rn (fr - 1) + rh (fr - 1) + tM T q) bxM) (h : FRS w T ND p fr ro rn rh cb pc ct (tK T q) (tC T q)) (hq : q < ND) (hnd : ND ≤ 16000) (hl : rh (fr - 1) = tL T q) (h106 : A w 106 p = ((cb (fr - 1) + tK T q : Nat) : Int)) : OK (fun w2 _ => ATQ Fv P PR T ND p w2 fr ro rn rh cb pc ct q n ow kd bxM ∧ FR [] [] [98] [] w w2 ∧ OTF p w w2) (fm_M_goTo N w (I q)) := by
  have x4 := MEI_p i
  have hf := h.1
  rw [goTo_ok i h.1.2.2 ⟨h.1.1, h.1.2.1⟩ (by omega)]
  have f98 : FR [] [] [98] [] w (wa w 98 (60 * p + (fr - 1)) q) := FR.wa FR.rf (by decide)
  have e98 : ∀ j, A (wa w 98 (60 * p + (fr - 1)) q) 98 j = if j = 60 * p + (fr - 1) then (q : Int) else A w 98 j := fun j => A_eq (by omega) (by omega)
  refine ok_some.mpr ⟨⟨MEI_fr i f98 (by decide) (by decide) (by decide) (by decide) (by decide) (by decide) (by decide) (by decide) (by decide) (by decide) (by decide) (by decide) (by decide) (by decide) (by decide) (by decide) (by decide) (by decide), FRS_98 h f98 (by decide) (fun j hj => by rw [e98, if_neg hj]), by rw [e98, if_pos rfl], hq, hl, by rw [FR.A f98 (by decide)]; exact h106⟩, f98, OTF_at f98 (i0 := 60 * p + (fr - 1)) (fun j hj => by rw [e98, if_neg hj]) (Or.inr (Or.inl ⟨by decide, by omega, by omega⟩))⟩
theorem cls_c {s many hg hb m r c : Nat} (hg' : PRG w T C pM pE ND CN PN SN UN FN) (ht : CLS C w CN many hg hb m (rh (fr - 1)) k tp r ((c : Nat) : Int)) : c < CN ∧ A w 41 c = many ∧ cH C c = hg ∧ cM C c = m ∧ m ≤ cN C c ∧ cN C c + rh (fr - 1) ≤ 40 ∧ (A w 42 c = -1 ∨ ∃ g : Nat, A w 42 c = g ∧ g < ND ∧ tH T g = hg ∧ tG T g = c + 1 ∧ tR T g ≤ cT C c) ∧
    (∃ b : Nat, A w 43 c = b ∧ b < ND ∧ tH T b = hb ∧ tM T b = cN C c ∧ tL T b = rh (fr - 1) ∧ tK T b = k ∧ tG T b = 0 ∧ tC T b = tp ∧ tR T b ≤ r) ∧
    (A w 45 c = -1 ∨ ∃ d : Nat, A w 45 c = d ∧ c < d ∧ cT C d ≤ cT C c ∧ CLS C w CN many hg hb m (rh (fr - 1)) k tp r ((d : Nat) : Int)) := by
  obtain ⟨c', c1, c2, c3, c4, c5, c6, c7, c8, c9, c10⟩ := ht
  obtain rfl : c' = c := by omega
  obtain ⟨-, ⟨d4, d5, d6⟩, d7, ⟨b, d8⟩, d9⟩ := hg'.2.2.2.1 c' c2
  rw [c4] at d7
  rw [c5, c7, c8, c9, c10] at d8
  refine ⟨c2, c3, c4, c6, by omega, by omega, d7, ⟨b, d8⟩, ?_⟩
  rcases d9 with d9 | ⟨d, e1, e2, e3, e4, e5, e6, e7, e8, e9, e10, e11, e12⟩
  · exact Or.inl d9
  · exact Or.inr ⟨d, e1, e2, e12, d, rfl, e3, by rw [e4, c3], by rw [e5, c4], by rw [e6, c5], by rw [e7, c6], by rw [e8, c7], by rw [e9, c8], by rw [e10, c9], by rw [e11, c10]⟩
theorem box_less (m : MEI Fv P PR w p n ow kd opM bnM bxM) {k : Nat} (hk : k ≤ bxM) : MEI Fv P PR (wa w 108 p k) p n ow kd opM bnM k := by
  have m' := m
  obtain ⟨m1, m2, m3, m4, m5, ⟨x1, x2, x3, x4, x5, x6, x7, x8, x9, x10, x11⟩⟩ := m
  have fz : FR [] [] [108] [] w (wa w 108 p k) := FR.wa FR.rf (by decide)
  exact MEI_upd m' (FR.mo fz (by decide) (by decide) (by decide) (by decide)) m1.2.2.2.1 (fun q _ => FR.A fz (by decide)) (fun q _ => FR.A fz (by decide)) (fun q _ => FR.A fz (by decide)) (fun q hq => by rw [A_eq (by omega) (by omega), if_neg hq]) (fun _ _ => rfl) (fun _ _ => rfl) (fun _ _ => rfl) (fun _ _ => rfl) (by rw [FR.A fz (by decide)]; exact m5) ⟨rfl, x2, x3, x4, by rw [FR.A fz (by decide)]; exact x5, by rw [FR.A fz (by decide)]; exact x6, ⟨by rw [A_eq (by omega) (by omega), if_pos rfl], by omega⟩, x8, x9, fun i hi => x10 i (by omega), fun e => by have : F w 140 = p := e; have := m1.2.2.2.1; omega⟩
theorem box_put (m : MEI Fv P PR w p n ow kd opM bnM bxM) {j : Nat} {t : Int64} (hj : j < bxM) (g : GT n ow kd P t) : MEI Fv P PR (wj w 107 (30 * p + j) t) p n ow kd opM bnM bxM := by
  have m' := m
  obtain ⟨m1, m2, m3, m4, m5, ⟨x1, x2, x3, x4, x5, x6, x7, x8, x9, x10, x11⟩⟩ := m
  have fz : FR [] [] [] [107] w (wj w 107 (30 * p + j) t) := FR.wj FR.rf (by decide)
  have j107 : ∀ i, (wj w 107 (30 * p + j) t).2.2.2 107 i = if i = 30 * p + j then t else w.2.2.2 107 i := fun i => by rw [J_wj, if_pos rfl]
  have hpz : hp (wj w 107 (30 * p + j) t) p = hp w p := by unfold hp; rw [fz.2.2.2 88 (by decide)]
  exact MEI_upd m' (FR.mo fz (by decide) (by decide) (by decide) (by decide)) m1.2.2.2.1 (fun q _ => FR.A fz (by decide)) (fun q _ => FR.A fz (by decide)) (fun q _ => FR.A fz (by decide)) (fun q _ => FR.A fz (by decide)) (fun i _ => by rw [fz.2.2.2 88 (by decide)]) (fun i _ => by rw [fz.2.2.2 91 (by decide)]) (fun i _ => by rw [fz.2.2.2 93 (by decide)]) (fun i hi => by rw [j107, if_neg (by omega)]) (by rw [FR.A fz (by decide)]; exact m5) ⟨rfl, by rw [hpz]; exact x2, x3, x4, by rw [FR.A fz (by decide)]; exact x5, by rw [FR.A fz (by decide)]; exact x6, by rw [FR.A fz (by decide)]; exact x7, fun i hi => by rw [fz.2.2.2 91 (by decide)]; exact x8 i hi, fun i hi => by rw [fz.2.2.2 93 (by decide)]; exact x9 i hi, fun i hi => by
    rw [j107]
    by_cases e : i = j
    · subst e; rw [if_pos rfl]; exact g
    · rw [if_neg (by omega)]; exact x10 i hi, fun e => by have : F w 140 = p := e; have := m1.2.2.2.1; omega⟩
end
end
section
section
variable {Fv : Int64 → Int64 → Prop} {P : Int64 → Prop} {w w2 : MS} {PR N p n opM bnM bxM ND fr k tp mu CN PN SN UN FN : Nat} {ow kd ro rn rh cb pc ct pM pE : Nat → Nat} {T : TY} {C : CY}
theorem frame0_f (i : MEI Fv P PR w p n ow kd opM bnM bxM) (h1 : A w 95 p = ((fr : Nat) : Int)) (h2 : 1 ≤ fr ∧ fr ≤ 60) : fm_M_frame0 N w = some (w, I ((60 * p + (fr - 1) : Nat) : Int)) := by
  have x4 := MEI_p i
  unfold fm_M_frame0 fb_M_frame0_0
  rw [I_F' i.2.2.1, inb_at (k := 95) (n := 24) rfl (by omega) (by omega) (by decide), ck_t, I_tn (by omega) (by omega), Int.toNat_natCast, I_A' h1, show (60 : Int32) = I 60 from rfl, I_mul, I_add, lit1q, I_sub, show (p : Int) * 60 + (fr : Int) - 1 = ((60 * p + (fr - 1) : Nat) : Int) from by omega]
theorem MEI_ints {is : List Nat} (i : MEI Fv P PR w p n ow kd opM bnM bxM) (f : FR is [] [] [] w w2) (h : ∀ k, k ∈ [133, 118, 140, 149, 150] → k ∉ is) : MEI Fv P PR w2 p n ow kd opM bnM bxM :=
  MEI_fr i f (h _ (by decide)) (h _ (by decide)) (h _ (by decide)) (h _ (by decide)) (h _ (by decide)) (by decide) (by decide) (by decide) (by decide) (by decide) (by decide) (by decide) (by decide) (by decide) (by decide) (by decide) (by decide) (by decide)
theorem ch148 {G : MS → Int32 → Option (MS × Unit)} {many hg hb m r c : Nat} (i : MEI Fv P PR w p n ow kd (ro (fr - 1) + hb) (rn (fr - 1) + rh (fr - 1) + cN C c) bxM) (hg' : PRG w T C pM pE ND CN PN SN UN FN) (h : FRS w T ND p fr ro rn rh cb pc ct k tp) (ht : CLS C w CN many hg hb m (rh (fr - 1)) k tp r ((c : Nat) : Int)) (hc : F w 154 = c) (h106 : A w 106 p = ((cb (fr - 1) + k : Nat) : Int)) (h109 : A w 109 p = 0) (h152 : F w 152 = 0) (hcl : CLG w (sR T pc (fr - 1) + r) 1 mu) : OK (fun w2 _ => RES Fv P PR T C ND CN p mu w w2) (fb_M_chosen_148 N G w) := by
  obtain ⟨c1, c2, c3, c4, c5, c6, -, ⟨b, b1, b2, b3, b4, b5, b6, b7, b8, b9⟩, -⟩ := cls_c (s := 0) hg' ht
  have cn := hg'.1.2.1
  unfold fb_M_chosen_148
  rw [I_F' hc]
  refine ok_ck.mpr ⟨inb_at (k := 43) (n := 1400) rfl (by omega) (by omega) (by decide), ?_⟩
  rw [I_tn (by omega) (by omega), Int.toNat_natCast, I_A' b1]
  refine ok_bnd.mpr (ok_mono (at_ok (N := N) (q := b) (by rw [b3, b4]; exact i) (by rw [b6, b8]; exact h) b2 hg'.1.1 b5.symm (by rw [b6]; exact h106)) (fun v _ hv => ?_))
  obtain ⟨v1, v2, v3⟩ := hv
  refine ok_some.mpr ⟨Or.inr (Or.inr ⟨mu - 1, ?_, fr, ro, rn, rh, cb, pc, ct, b, n, ow, kd, bxM, v1, by rw [FR.A v2 (by decide)]; exact h109, Or.inl ⟨b7, by rw [FR.F v2 (by decide)]; exact h152, ?_⟩⟩), Or.inl (FR.mo v2 (by decide) (by decide) (by decide) (by decide)), v3, fun z _ => FR.A v2 (by decide)⟩
  · obtain ⟨e1, e2, e3, e4⟩ := hcl; omega
  · obtain ⟨e1, e2, e3, e4⟩ := hcl
    unfold CLG
    rw [FR.F v2 (by decide), FR.F v2 (by decide)]
    exact ⟨e1, e2, e3, by omega⟩
theorem ch99 {many hg hb m r c : Nat} {w0 : MS} (hg' : PRG w0 T C pM pE ND CN PN SN UN FN) (h : FRS w0 T ND p fr ro rn rh cb pc ct k tp) (ht : CLS C w0 CN many hg hb m (rh (fr - 1)) k tp r ((c : Nat) : Int)) (hc : F w0 154 = c) (h106 : A w0 106 p = ((cb (fr - 1) + k : Nat) : Int)) (h109 : A w0 109 p = 0) (h152 : F w0 152 = 0) (hcl : CLG w0 (sR T pc (fr - 1) + r) 1 mu) (hN : N ≤ N) : ∀ (fu j : Nat) (v : MS), FR [] [] [] [107] w0 v → MEI Fv P PR v p n ow kd (ro (fr - 1) + hb) (rn (fr - 1) + rh (fr - 1) + cN C c) bxM → (∀ i, i ≤ bxM → GT n ow kd P (v.2.2.2 107 (30 * p + i))) → j ≤ bxM → bxM < 30 → bxM - j < fu → OK (fun w2 _ => RES Fv P PR T C ND CN p mu w0 w2) (gg_M_chosen N fu v (I j)) := by
  intro fu
  induction fu with
  | zero => intro j v _ _ _ _ _ z; exact absurd z (Nat.not_lt_zero _)
  | succ fu ih =>
    intro j v fv iv gt hj hb30 hf
    have x4 := MEI_p iv
    show OK _ (fb_M_chosen_99 N (gg_M_chosen N fu) v (I j))
    unfold fb_M_chosen_99
    rw [I_F' iv.2.2.1]
    refine ok_ck.mpr ⟨inb_at (k := 108) (n := 24) rfl (by omega) (by omega) (by decide), ?_⟩
    rw [I_tn (x := (p : Int)) (by omega) (by omega), Int.toNat_natCast, I_A' iv.2.2.2.2.2.2.2.2.2.2.2.1.1, decI (by omega) (by omega) (by omega) (by omega)]
    refine ok_br.mpr ⟨fun z => ?_, fun z => ?_⟩
    · have := ch148 (N := N) (G := gg_M_chosen N fu) (mu := mu) iv (PRG_fr hg' fv (by decide) (by decide)) (FRS_fr h fv (by decide) (by decide) (by decide) (by decide) (by decide) (by decide) (by decide) (by decide) (by decide) (by decide)) (by obtain ⟨c', d1, d2, d3, d4⟩ := ht; exact ⟨c', d1, d2, by rw [FR.A fv (by decide)]; exact d3, d4⟩) (by rw [FR.F fv (by decide)]; exact hc) (by rw [FR.A fv (by decide)]; exact h106) (by rw [FR.A fv (by decide)]; exact h109) (by rw [FR.F fv (by decide)]; exact h152) (by unfold CLG; rw [FR.F fv (by decide), FR.F fv (by decide)]; exact hcl)
      exact ok_mono this (fun u _ hu => RES.tr (FR.mo fv (by decide) (by decide) (by decide) (by decide)) (OTF_fr fv (by decide)) (fun z _ => FR.A fv (by decide)) hu (Nat.le_refl _))
    · have hj2 : j < bxM := by have := of_decide_eq_false z; omega
      rw [show (30 : Int32) = I 30 from rfl, I_mul, I_add, lit1q, I_add, I_add]
      refine ok_ck.mpr ⟨inb_at (k := 107) (n := 720) rfl (by omega) (by omega) (by decide), ok_ck.mpr ⟨inb_at (k := 107) (n := 720) rfl (by omega) (by omega) (by decide), ok_lt.mpr ?_⟩⟩
      rw [I_tn (by omega) (by omega), I_tn (by omega) (by omega), show ((p : Int) * 30 + (j : Int)).toNat = 30 * p + j from by omega, show ((p : Int) * 30 + (j : Int) + 1).toNat = 30 * p + (j + 1) from by omega, wj_e, show (j : Int) + 1 = ((j + 1 : Nat) : Int) from by omega]
      refine ih (j + 1) _ (FR.wj fv (by decide)) (box_put iv hj2 (gt (j + 1) (by omega))) (fun i hi => ?_) (by omega) hb30 (by omega)
      rw [J_wj, if_pos rfl]
      by_cases e : i = j
      · subst e; rw [if_pos rfl]; exact gt (i + 1) (by omega)
      · rw [if_neg (by omega)]; exact gt i hi
theorem chosen_ok {s many hg hb m r c : Nat} (i : MEI Fv P PR w p n ow kd (ro (fr - 1) + hg) (rn (fr - 1) + rh (fr - 1) + cN C c) bxM) (hg' : PRG w T C pM pE ND CN PN SN UN FN) (h : FRS w T ND p fr ro rn rh cb pc ct k tp) (ht : TRS w T C ND CN p (ro (fr - 1)) (rn (fr - 1)) (rh (fr - 1)) k tp s many hg hb m r bxM) (hc : F w 154 = c) (h106 : A w 106 p = ((cb (fr - 1) + k : Nat) : Int)) (h109 : A w 109 p = 0) (hcl : CLG w (sR T pc (fr - 1) + r) 1 mu) (hN : 60 ≤ N) : OK (fun w2 _ => RES Fv P PR T C ND CN p mu w w2) (fm_M_chosen N w) := by
  have x4 := MEI_p i
  obtain ⟨⟨s1, s2, s3, s4, s42, s5, s6, s7, s8, s9⟩, u1, u2, u3, u4⟩ := ht
  have u2' : CLS C w CN many hg hb m (rh (fr - 1)) k tp r ((c : Nat) : Int) := by
    rcases u2 with u2 | u2
    · omega
    · rw [← hc]; exact u2
  have hf := h.1
  have cc := cls_c (s := 0) hg' u2'
  have cn := hg'.1.2.1
  have hro := (h.2.2.1 (fr - 1) (by omega)).2.2.2.2.1
  unfold fm_M_chosen fb_M_chosen_0
  refine ok_lt.mpr ?_
  rw [show upI w 152 0 = wi w 152 0 from rfl]
  have f0 : FR [152] [] [] [] w (wi w 152 0) := FR.wi FR.rf (by decide)
  have z152 : F (wi w 152 0) 152 = 0 := by rw [F_wi (by omega) (by omega), if_pos rfl]
  have i0 := MEI_ints i f0 (by decide)
  generalize wi w 152 0 = w3 at *
  have g0 := PRG_fr hg' f0 (by decide) (by decide)
  have h0 := FRS_fr h f0 (by decide) (by decide) (by decide) (by decide) (by decide) (by decide) (by decide) (by decide) (by decide) (by decide)
  have t0 : CLS C w3 CN many hg hb m (rh (fr - 1)) k tp r ((c : Nat) : Int) := by obtain ⟨c', d1, d2, d3, d4⟩ := u2'; exact ⟨c', d1, d2, by rw [FR.A f0 (by decide)]; exact d3, d4⟩
  have c0 : F w3 154 = c := by rw [FR.F f0 (by decide)]; exact hc
  have a6 : A w3 106 p = ((cb (fr - 1) + k : Nat) : Int) := by rw [FR.A f0 (by decide)]; exact h106
  have a9 : A w3 109 p = 0 := by rw [FR.A f0 (by decide)]; exact h109
  have cl0 : CLG w3 (sR T pc (fr - 1) + r) 1 mu := by unfold CLG; rw [FR.F f0 (by decide), FR.F f0 (by decide)]; exact hcl
  have back : ∀ w2, RES Fv P PR T C ND CN p mu w3 w2 → RES Fv P PR T C ND CN p mu w w2 := fun w2 hw => RES.tr (FR.mo f0 (by decide) (by decide) (by decide) (by decide)) (OTF_fr f0 (by decide)) (fun z _ => FR.A f0 (by decide)) hw (Nat.le_refl _)
  have p92 : A w3 92 p = ((ro (fr - 1) + hg : Nat) : Int) := i0.2.2.2.2.2.2.2.2.2.1.1
  have p108 : A w3 108 p = ((bxM : Nat) : Int) := i0.2.2.2.2.2.2.2.2.2.2.2.1.1
  have b30 : bxM ≤ 30 := i0.2.2.2.2.2.2.2.2.2.2.2.1.2
  have p41 : A w3 41 c = many := by rw [FR.A f0 (by decide)]; exact cc.2.1
  have less : ∀ d : Nat, hg = hb + d → ∃ v, v = wa w3 92 p ((ro (fr - 1) + hb : Nat) : Int) ∧ FR [] [] [92] [] w3 v ∧ OTF p w3 v ∧ MEI Fv P PR v p n ow kd (ro (fr - 1) + hb) (rn (fr - 1) + rh (fr - 1) + cN C c) bxM := fun d hd => by
    have f5 : FR [] [] [92] [] w3 (wa w3 92 p ((ro (fr - 1) + hb : Nat) : Int)) := FR.wa FR.rf (by decide)
    exact ⟨_, rfl, f5, OTF_at f5 (i0 := p) (fun j hj => by rw [A_eq (by omega) (by omega), if_neg hj]) (Or.inl ⟨by decide, rfl⟩), ops_less i0 (k := ro (fr - 1) + hb) (by omega)⟩
  have fin : ∀ v : MS, FR [] [] [92, 97] [] w3 v → OTF p w3 v → MEI Fv P PR v p n ow kd (ro (fr - 1) + hb) (rn (fr - 1) + rh (fr - 1) + cN C c) bxM → OK (fun w2 _ => RES Fv P PR T C ND CN p mu w w2) (fb_M_chosen_148 N (gg_M_chosen N N) v) := fun v fv ov iv => by
    have := ch148 (N := N) (G := gg_M_chosen N N) (mu := mu) iv (PRG_fr g0 fv (by decide) (by decide)) (FRS_fr h0 fv (by decide) (by decide) (by decide) (by decide) (by decide) (by decide) (by decide) (by decide) (by decide) (by decide)) (by obtain ⟨c', d1, d2, d3, d4⟩ := t0; exact ⟨c', d1, d2, by rw [FR.A fv (by decide)]; exact d3, d4⟩) (by rw [FR.F fv (by decide)]; exact c0) (by rw [FR.A fv (by decide)]; exact a6) (by rw [FR.A fv (by decide)]; exact a9) (by rw [FR.F fv (by decide)]; exact z152) (by unfold CLG; rw [FR.F fv (by decide), FR.F fv (by decide)]; exact cl0)
    exact ok_mono this (fun u _ hu => back u (RES.tr (FR.mo fv (by decide) (by decide) (by decide) (by decide)) ov (fun z _ => FR.A fv (by decide)) hu (Nat.le_refl _)))
  rw [I_F' (show F w3 153 = s by rw [FR.F f0 (by decide)]; exact s1), lit0q, lit1q, show (3 : Int32) = I 3 from rfl, decE (by omega) (by omega) (by omega) (by omega), decE (by omega) (by omega) (by omega) (by omega), decE (by omega) (by omega) (by omega) (by omega), I_F' i0.2.2.1]
  refine ok_br.mpr ⟨fun z0 => ?_, fun z0 => ok_br.mpr ⟨fun z1 => ?_, fun z1 => ok_br.mpr ⟨fun z3 => ?_, fun z3 => ?_⟩⟩⟩
  · have es : s = 0 := by have := of_decide_eq_true z0; omega
    rw [es, if_pos rfl] at s3
    obtain ⟨v, v0, v1, v2, v3⟩ := less many s3
    rw [I_F' c0]
    refine ok_ck.mpr ⟨inb_at (k := 92) (n := 24) rfl (by omega) (by omega) (by decide), ok_ck.mpr ⟨inb_at (k := 41) (n := 1400) rfl (by omega) (by omega) (by decide), ok_ck.mpr ⟨inb_at (k := 92) (n := 24) rfl (by omega) (by omega) (by decide), ok_lt.mpr ?_⟩⟩⟩
    rw [I_tn (x := (p : Int)) (by omega) (by omega), Int.toNat_natCast, I_tn (x := (c : Int)) (by omega) (by omega), Int.toNat_natCast, I_A' p92, I_A' p41, I_sub, show ((ro (fr - 1) + hg : Nat) : Int) - (many : Int) = ((ro (fr - 1) + hb : Nat) : Int) from by omega, wa_e, ← v0, frame0_f (fr := fr) v3 (by rw [FR.A v1 (by decide)]; exact h0.1.2.2) ⟨hf.1, hf.2.1⟩, bnd_so]
    refine ok_ck.mpr ⟨inb_at (k := 97) (n := 1440) rfl (by omega) (by omega) (by decide), ok_lt.mpr ?_⟩
    rw [I_tn (by omega) (by omega), Int.toNat_natCast, I_F' (show F v 154 = c by rw [FR.F v1 (by decide)]; exact c0), wa_e]
    have f9 : FR [] [] [97] [] v (wa v 97 (60 * p + (fr - 1)) c) := FR.wa FR.rf (by decide)
    exact fin _ (FR.tr (FR.mo v1 (by decide) (by decide) (by decide) (by decide)) (FR.mo f9 (by decide) (by decide) (by decide) (by decide))) (OTF.tr v2 (OTF_97 (by omega))) (MEI_fr v3 f9 (by decide) (by decide) (by decide) (by decide) (by decide) (by decide) (by decide) (by decide) (by decide) (by decide) (by decide) (by decide) (by decide) (by decide) (by decide) (by decide) (by decide) (by decide))
  · have es : s = 1 := by have := of_decide_eq_true z1; omega
    rw [es, if_neg (by omega), if_pos rfl] at s3
    obtain ⟨v, v0, v1, v2, v3⟩ := less 1 s3
    refine ok_ck.mpr ⟨inb_at (k := 92) (n := 24) rfl (by omega) (by omega) (by decide), ok_ck.mpr ⟨inb_at (k := 92) (n := 24) rfl (by omega) (by omega) (by decide), ok_lt.mpr ?_⟩⟩
    rw [I_tn (x := (p : Int)) (by omega) (by omega), Int.toNat_natCast, I_A' p92, I_sub, show ((ro (fr - 1) + hg : Nat) : Int) - 1 = ((ro (fr - 1) + hb : Nat) : Int) from by omega, wa_e, ← v0]
    exact fin v (FR.mo v1 (by decide) (by decide) (by decide) (by decide)) v2 v3
  · have es : s = 3 := by have := of_decide_eq_true z3; omega
    rw [es, if_neg (by omega), if_neg (by omega)] at s3
    obtain rfl : hg = hb := by omega
    obtain ⟨-, v1, v2, -⟩ := u3 es
    obtain ⟨k8, hk8⟩ : ∃ k8 : Nat, F w 158 = k8 := ⟨(F w 158).toNat, by omega⟩
    refine ok_ck.mpr ⟨inb_at (k := 108) (n := 24) rfl (by omega) (by omega) (by decide), ok_ck.mpr ⟨inb_at (k := 108) (n := 24) rfl (by omega) (by omega) (by decide), ok_lt.mpr ?_⟩⟩
    rw [I_tn (x := (p : Int)) (by omega) (by omega), Int.toNat_natCast, I_A' p108, I_sub, show (bxM : Int) - 1 = ((bxM - 1 : Nat) : Int) from by omega, wa_e]
    have f8 : FR [] [] [108] [] w3 (wa w3 108 p ((bxM - 1 : Nat) : Int)) := FR.wa FR.rf (by decide)
    have i8 := box_less i0 (k := bxM - 1) (by omega)
    have gt8 : ∀ i, i ≤ bxM - 1 → GT n ow kd P ((wa w3 108 p ((bxM - 1 : Nat) : Int)).2.2.2 107 (30 * p + i)) := fun j hj => i0.2.2.2.2.2.2.2.2.2.2.2.2.2.2.1 j (by omega)
    generalize wa w3 108 p ((bxM - 1 : Nat) : Int) = v at *
    rw [I_F' (show F v 158 = k8 by rw [FR.F f8 (by decide), FR.F f0 (by decide)]; exact hk8)]
    have := ch99 (N := N) (mu := mu) (w0 := v) (PRG_fr g0 f8 (by decide) (by decide)) (FRS_fr h0 f8 (by decide) (by decide) (by decide) (by decide) (by decide) (by decide) (by decide) (by decide) (by decide) (by decide)) (by obtain ⟨c', d1, d2, d3, d4⟩ := t0; exact ⟨c', d1, d2, by rw [FR.A f8 (by decide)]; exact d3, d4⟩) (by rw [FR.F f8 (by decide)]; exact c0) (by rw [FR.A f8 (by decide)]; exact a6) (by rw [FR.A f8 (by decide)]; exact a9) (by rw [FR.F f8 (by decide)]; exact z152) (by unfold CLG; rw [FR.F f8 (by decide), FR.F f8 (by decide)]; exact cl0) (Nat.le_refl _) N k8 v FR.rf i8 gt8 (by omega) (by omega) (by omega)
    exact ok_mono this (fun u _ hu => back u (RES.tr (FR.mo f8 (by decide) (by decide) (by decide) (by decide)) (OTF_fr f8 (by decide)) (fun z _ => FR.A f8 (by decide)) hu (Nat.le_refl _)))
  · have e0 := of_decide_eq_false z0
    have e1 := of_decide_eq_false z1
    rw [if_neg (by omega), if_neg (by omega)] at s3
    exact fin w3 FR.rf (OTF_fr (FR.rf : FR [] [] [] [] w3 w3) (by decide)) (by rw [show hb = hg from by omega]; exact i0)
end
end
section
section
variable {Fv : Int64 → Int64 → Prop} {P : Int64 → Prop} {w w2 : MS} {PR N p n opM bnM bxM ND fr k tp mu CN PN SN UN FN : Nat} {ow kd ro rn rh cb pc ct pM pE : Nat → Nat} {T : TY} {C : CY}
theorem cE_109 (h : ∀ z, z ≠ p → A w2 109 z = A w 109 z) (h1 : A w 109 p ≠ 3) (h2 : A w2 109 p ≠ 3) : ∀ k, cE w2 k = cE w k := by
  intro k
  induction k with
  | zero => rfl
  | succ k ih =>
    show cE w2 k + (if A w2 109 k = 3 then 1 else 0) = cE w k + (if A w 109 k = 3 then 1 else 0)
    rw [ih]
    by_cases e : k = p
    · subst e; rw [if_neg h1, if_neg h2]
    · rw [h k e]
theorem DW_109 (d : DW Fv P PR w) (f : FR [] [] [109] [] w w2) (h : ∀ z, z ≠ p → A w2 109 z = A w 109 z) (h1 : A w 109 p ≠ 3) (h2 : A w2 109 p = 0 ∨ A w2 109 p = 1) : DW Fv P PR w2 := by
  obtain ⟨⟨d1, d1'⟩, d2, ⟨n4, ow4, kd4, d3a, d3b, d3c⟩, d4, ⟨eF, eM, e1, e2, e3, e4, e5⟩, d6⟩ := d
  have hpz : ∀ x, hp w2 x = hp w x := fun x => by unfold hp; rw [f.2.2.2 88 (by decide)]
  refine ⟨⟨by rw [FR.F f (by decide)]; exact d1, d1'⟩, fun p hp1 => PRC_same (d2 p hp1) (FR.A f (by decide)) (hpz p) (FR.A f (by decide)) (FR.A f (by decide)) (FR.A f (by decide)) (fun i _ => by rw [f.2.2.2 91 (by decide)]) (fun i _ => by rw [f.2.2.2 93 (by decide)]) (fun i _ => by rw [f.2.2.2 107 (by decide)]) (by rw [FR.F f (by decide), d4]; omega), ⟨n4, ow4, kd4, by rw [FR.A f (by decide)]; exact d3a, d3b, by rw [hpz]; exact d3c⟩, by rw [FR.F f (by decide)]; exact d4, ⟨eF, eM, by rw [FR.F f (by decide)]; exact e1, by rw [FR.F f (by decide)]; exact e2, e3, by rw [cE_109 h h1 (by omega)]; exact e4, fun i h3 h4 => ?_⟩, fun z hz => ?_⟩
  · obtain ⟨q1, q2, q3, q4⟩ := e5 i h3 h4
    rw [FR.A f (by decide), FR.A f (by decide), FR.A f (by decide), f.2.2.2 148 (by decide)]
    refine ⟨q1, q2, q3, ?_⟩
    rcases q4 with q4 | ⟨q4, q5, n5, ow5, kd5, q6, q7, q8, q9⟩
    · exact Or.inl q4
    · refine Or.inr ⟨q4, ?_, n5, ow5, kd5, by rw [FR.A f (by decide)]; exact q6, q7, by rw [hpz]; exact q8, q9⟩
      rcases q5 with q5 | ⟨q5, q5'⟩
      · exact Or.inl q5
      · refine Or.inr ⟨q5, ?_⟩
        rw [h _ (fun e => h1 (by rw [← e]; exact q5'))]; exact q5'
  · by_cases e : z = p
    · rw [e]; omega
    · rw [h z e]; exact d6 z hz
theorem MEI_109 {x : Int} (m : MEI Fv P PR w p n ow kd opM bnM bxM) (hx : x = 0 ∨ x = 1) : MEI Fv P PR (wa w 109 p x) p n ow kd opM bnM bxM := by
  obtain ⟨m1, m2, m3, m4, m5, ⟨x1, x2, x3, x4, x5, x6, x7, x8, x9, x10, x11⟩⟩ := m
  have f : FR [] [] [109] [] w (wa w 109 p x) := FR.wa FR.rf (by decide)
  have e : ∀ z, A (wa w 109 p x) 109 z = if z = p then x else A w 109 z := fun z => A_eq (by omega) (by omega)
  exact ⟨DW_109 (p := p) m1 f (fun z hz => by rw [e, if_neg hz]) m4 (by rw [e, if_pos rfl]; omega), m2, m3, by rw [e, if_pos rfl]; omega, by rw [FR.A f (by decide)]; exact m5, ⟨rfl, x2, x3, x4, by rw [FR.A f (by decide)]; exact x5, by rw [FR.A f (by decide)]; exact x6, by rw [FR.A f (by decide)]; exact x7, x8, x9, x10, x11⟩⟩
theorem lg_neg {x : Int64} (h : ¬ lg_cmp x 0 < 0) : x ≠ -1 := fun e => by subst e; exact h (by decide)
theorem afterMessages_ok {r q : Nat} (i : MEI Fv P PR w p n ow kd (ro (fr - 1) + tH T q) (rn (fr - 1) + rh (fr - 1) + tM T q) bxM) (hg' : PRG w T C pM pE ND CN PN SN UN FN) (h : FRS w T ND p fr ro rn rh cb pc ct (tK T q) (tC T q)) (h159 : F w 159 = q) (hq : q < ND) (h23 : A w 23 q = 27) (hG : tG T q = 0) (hl : rh (fr - 1) = tL T q) (h106 : A w 106 p = ((cb (fr - 1) + tK T q : Nat) : Int)) (h109 : A w 109 p = 0) (h152 : F w 152 = 0) (h111 : A w 31 q = -1 → w.2.2.2 111 p = -1) (h110 : 0 ≤ A w 110 p) (hr : tR T q ≤ r + 1) (hcl : CLG w (sR T pc (fr - 1) + r) 1 mu) : OK (fun w2 _ => RES Fv P PR T C ND CN p mu w w2) (fm_M_afterMessages N w) := by
  have x4 := MEI_p i
  have nd := hg'.1.1
  obtain ⟨-, ha, -⟩ := hg'.2.2.1 q hq
  obtain ⟨-, -, -, -, -, -, -, -, -, -, -, h27, -⟩ := ha
  obtain ⟨-, -, -, h31⟩ := h27 h23
  have wait : OK (fun w2 _ => RES Fv P PR T C ND CN p mu w w2) (fb_M_afterMessages_53 N () w) := by
    unfold fb_M_afterMessages_53 fb_M_afterMessages_71
    rw [I_F' i.2.2.1]
    refine ok_ck.mpr ⟨inb_at (k := 109) (n := 24) rfl (by omega) (by omega) (by decide), ok_lt.mpr ?_⟩
    rw [I_tn (x := (p : Int)) (by omega) (by omega), Int.toNat_natCast, lit1q, wa_e]
    have f1 : FR [] [] [109] [] w (wa w 109 p 1) := FR.wa FR.rf (by decide)
    have e1 : ∀ z, A (wa w 109 p 1) 109 z = if z = p then 1 else A w 109 z := fun z => A_eq (by omega) (by omega)
    have i1 := MEI_109 (x := 1) i (Or.inr rfl)
    generalize wa w 109 p 1 = v at *
    rw [I_F' (show F v 159 = q by rw [FR.F f1 (by decide)]; exact h159)]
    refine ok_bnd.mpr (ok_mono (at_ok (N := N) (q := q) i1 (FRS_fr h f1 (by decide) (by decide) (by decide) (by decide) (by decide) (by decide) (by decide) (by decide) (by decide) (by decide)) hq nd hl (by rw [FR.A f1 (by decide)]; exact h106)) (fun u _ hu => ?_))
    obtain ⟨u1, u2, u3⟩ := hu
    have fu : FR [] [] [98, 109] [] w u := FR.tr (FR.mo f1 (by decide) (by decide) (by decide) (by decide)) (FR.mo u2 (by decide) (by decide) (by decide) (by decide))
    refine ok_some.mpr ⟨Or.inr (Or.inl ⟨fr, ro, rn, rh, cb, pc, ct, q, n, ow, kd, bxM, u1, by rw [FR.A u2 (by decide), e1, if_pos rfl], hG, by rw [FR.A fu (by decide)]; exact h23, fun z => ?_, by rw [FR.A fu (by decide)]; exact h110⟩), Or.inl (FR.mo fu (by decide) (by decide) (by decide) (by decide)), OTF.tr (OTF_fr f1 (by decide)) u3, fun z hz => by rw [FR.A u2 (by decide), e1, if_neg hz]⟩
    rw [FR.A fu (by decide)] at z
    rw [fu.2.2.2 111 (by decide)]
    exact h111 z
  unfold fm_M_afterMessages fb_M_afterMessages_0 fb_M_afterMessages_71
  rw [I_F' i.2.2.1, I_tn (x := (p : Int)) (by omega) (by omega), Int.toNat_natCast]
  refine ok_ck.mpr ⟨inb_at (k := 111) (n := 24) rfl (by omega) (by omega) (by decide), ok_br.mpr ⟨fun _ => wait, fun z => ok_ck.mpr ⟨inb_at (k := 111) (n := 24) rfl (by omega) (by omega) (by decide), ok_br.mpr ⟨fun _ => wait, fun _ => ?_⟩⟩⟩⟩
  have n31 : A w 31 q ≠ -1 := fun e => lg_neg (of_decide_eq_false z) (h111 e)
  obtain ⟨g, g1, g2, b, g3, g4, g5⟩ := h31.resolve_left n31
  obtain ⟨n1, n2, n3, n4, n5, n6, n7, n8, n9⟩ := g5
  rw [I_F' h159]
  refine ok_ck.mpr ⟨inb_at (k := 31) (n := 16000) rfl (by omega) (by omega) (by decide), ?_⟩
  rw [I_tn (x := (q : Int)) (by omega) (by omega), Int.toNat_natCast, I_A' g1]
  refine ok_ck.mpr ⟨inb_at (k := 26) (n := 16000) rfl (by omega) (by omega) (by decide), ?_⟩
  rw [I_tn (x := (g : Int)) (by omega) (by omega), Int.toNat_natCast, I_A' g3]
  refine ok_bnd.mpr (ok_mono (at_ok (N := N) (q := b) (by rw [n1, n2]; exact i) (by rw [n4, n8]; exact h) g4 nd (by rw [n3]; exact hl) (by rw [n4]; exact h106)) (fun u _ hu => ?_))
  obtain ⟨u1, u2, u3⟩ := hu
  refine ok_some.mpr ⟨Or.inr (Or.inr ⟨mu - 1, ?_, fr, ro, rn, rh, cb, pc, ct, b, n, ow, kd, bxM, u1, by rw [FR.A u2 (by decide)]; exact h109, Or.inl ⟨by rw [n5]; exact hG, by rw [FR.F u2 (by decide)]; exact h152, ?_⟩⟩), Or.inl (FR.mo u2 (by decide) (by decide) (by decide) (by decide)), u3, fun z _ => FR.A u2 (by decide)⟩
  · obtain ⟨e1, e2, e3, e4⟩ := hcl; omega
  · obtain ⟨e1, e2, e3, e4⟩ := hcl
    unfold CLG
    rw [FR.F u2 (by decide), FR.F u2 (by decide)]
    exact ⟨e1, e2, e3, by omega⟩
end
end
section
def ER0 (Fv : Int64 → Int64 → Prop) (P : Int64 → Prop) (PR : Nat) (T : TY) (ND p : Nat) (w : MS) (fr : Nat) (ro rn rh cb pc ct : Nat → Nat) (k tp n : Nat) (ow kd : Nat → Nat) (opM bnM bxM rq mu : Nat) : Prop :=
  MEI Fv P PR w p n ow kd opM bnM bxM ∧ FRS w T ND p fr ro rn rh cb pc ct k tp ∧ (0 < k → ro (fr - 1) + tH T tp ≤ opM ∧ rn (fr - 1) + rh (fr - 1) + tM T tp ≤ bnM ∧ ∃ a : Nat, A w 25 tp = a ∧ tR T a < rq) ∧ (ro (fr - 1) ≤ opM ∧ rn (fr - 1) ≤ bnM) ∧ A w 106 p = ((cb (fr - 1) + k : Nat) : Int) ∧ k ≤ 26 ∧ A w 109 p = 0 ∧ F w 152 = 0 ∧ CLK w (sR T pc (fr - 1) + rq) mu
section
variable {Fv : Int64 → Int64 → Prop} {P : Int64 → Prop} {w w2 : MS} {PR N p n n2 opM bnM bxM ND fr k tp mu CN PN SN UN FN rq : Nat} {ow kd ow2 kd2 ro rn rh cb pc ct pM pE : Nat → Nat} {T : TY} {C : CY}
theorem ER0_fr {is ls as js : List Nat} (h : ER0 Fv P PR T ND p w fr ro rn rh cb pc ct k tp n ow kd opM bnM bxM rq mu) (f : FR is ls as js w w2) (i : MEI Fv P PR w2 p n2 ow2 kd2 opM bnM bxM) (hi : ∀ k, k ∈ [152, 164, 165] → k ∉ is) (ha : ∀ k, k ∈ [23, 25, 95, 98, 99, 100, 101, 102, 103, 104, 105, 106, 109] → k ∉ as) : ER0 Fv P PR T ND p w2 fr ro rn rh cb pc ct k tp n2 ow2 kd2 opM bnM bxM rq mu := by
  obtain ⟨-, h2, h3, h4, h5, h6, h7, h8, h9⟩ := h
  refine ⟨i, FRS_fr h2 f (ha _ (by decide)) (ha _ (by decide)) (ha _ (by decide)) (ha _ (by decide)) (ha _ (by decide)) (ha _ (by decide)) (ha _ (by decide)) (ha _ (by decide)) (ha _ (by decide)) (ha _ (by decide)), fun z => ?_, h4, by rw [FR.A f (ha _ (by decide))]; exact h5, h6, by rw [FR.A f (ha _ (by decide))]; exact h7, by rw [FR.F f (hi _ (by decide))]; exact h8, ?_⟩
  · rw [FR.A f (ha _ (by decide))]; exact h3 z
  · unfold CLK; rw [FR.F f (hi _ (by decide)), FR.F f (hi _ (by decide))]; exact h9
theorem up0 {S : SG_M_error} {t : Int64} {kn : Int} (e : ER0 Fv P PR T ND p w fr ro rn rh cb pc ct k tp n ow kd opM bnM bxM rq mu) (hg : PRG w T C pM pE ND CN PN SN UN FN) (hPB : PB P PR) (g : GT n ow kd P t) (hk : 0 ≤ kn ∧ kn ≤ 2) (hN : 60000 ≤ N) : OK (fun w2 _ => STP Fv P PR T ND p mu w w2) (fm_M_goesUp N S w (I kn) t) := by
  obtain ⟨h1, h2, h3, h4, h5, h6, h7, h8, h9⟩ := e
  exact goesUp_ok h1 h2 hg hPB g hk h3 h4 h5 h6 h7 h8 h9 hN
theorem error0 {S S2 : SG_M_error} {a : Int} (hS : S.2.2.2.2.2 = fm_M_goesUp N S2) (e : ER0 Fv P PR T ND p w fr ro rn rh cb pc ct k tp n ow kd opM bnM bxM rq mu) (hg : PRG w T C pM pE ND CN PN SN UN FN) (hPB : PB P PR) (ha : 0 ≤ a ∧ a < 22) (hN : 60000 ≤ N) : OK (fun w2 _ => STP Fv P PR T ND p mu w w2) (fm_M_error N S w (I a)) := by
  unfold fm_M_error fb_M_error_0
  rw [lit1q, term_e, bnd_so, hS]
  exact ok_bnd.mpr (ok_mono (up0 (kn := 0) e hg hPB (Or.inl ⟨nh_mk (by omega), hPB.1 a ha.1 ha.2⟩) (by omega) hN) (fun v _ h => ok_some.mpr h))
theorem STP.pre {u : MS} (f : STF0 u w) (o : OTF p u w) (h : ∀ z, z ≠ p → A w 109 z = A u 109 z) (s : STP Fv P PR T ND p mu w w2) : STP Fv P PR T ND p mu u w2 := by
  obtain ⟨s1, s2, s3, s4⟩ := s
  exact ⟨s1, STG.tr f s2, OTF.tr o s3, fun z hz => by rw [s4 z hz, h z hz]⟩
theorem errorOf0 {S S2 : SG_M_error} {a : Int} {t : Int64} (hS : S.2.2.2.2.2 = fm_M_goesUp N S2) (e : ER0 Fv P PR T ND p w fr ro rn rh cb pc ct k tp n ow kd opM bnM bxM rq mu) (hg : PRG w T C pM pE ND CN PN SN UN FN) (hPB : PB P PR) (g : GT n ow kd P t) (ha : 0 ≤ a ∧ a < 22) (hN : 60000 ≤ N) : OK (fun w2 _ => STP Fv P PR T ND p mu w w2) (fm_M_errorOf N S w (I a) t) := by
  have i := e.1
  have x4 := MEI_p i
  unfold fm_M_errorOf fb_M_errorOf_0 fb_M_errorOf_66
  rw [I_F' e.2.2.2.2.2.2.2.1, lit0q, decE (by omega) (by omega) (by omega) (by omega), decide_eq_true rfl, br_tq, I_F' i.2.2.1, hand_e, bnd_so, show (wl (wi w 140 p) 139 t).1 133 = I p from I_F' (by rw [F_wl, F_wi (by omega) (by omega), if_neg (by decide)]; exact i.2.2.1)]
  have hw := wants_h (m := 3) i g (by omega) hN
  rw [show I ((3 : Nat) : Int) = (3 : Int32) from rfl] at hw
  refine ok_bnd.mpr (ok_mono hw (fun u r h => ?_))
  obtain ⟨n2, ow2, kd2, q1, q2, q3, -, q4⟩ := h
  rw [handNone_e, bnd_so]
  have o3 : OTF p w (wl (wi u 140 (-1)) 139 (mk 6 0)) := OTF_fr q3 (by decide)
  refine ok_br.mpr ⟨fun _ => ?_, fun hr => ?_⟩
  · refine ok_bnd.mpr (ok_mono (noRoom_ok (N := N) q1 hPB) (fun u2 _ h => ok_some.mpr ⟨Or.inl h.1, Or.inr ⟨FR.tr (FR.mo q3 (by decide) (by decide) (by decide) (by decide)) (FR.mo h.2.1 (by decide) (by decide) (by decide) (by decide)), h.1.2⟩, OTF.tr o3 (OTF_fr h.2.1 (by decide)), fun z hz => by rw [h.2.2 z hz, FR.A q3 (by decide)]⟩))
  · have room : n2 + 3 ≤ 500 := by
      rcases q4 with ⟨-, z⟩ | z
      · exact z
      · exact absurd z (by intro z; exact absurd (show r = I 0 by rw [z]) (of_decide_eq_false hr))
    refine ok_bnd.mpr (ok_mono (two_ok (N := N) q1 hPB ha q2 room) (fun u2 r2 h => ?_))
    obtain ⟨s1, ow3, kd3, s2, s3, -⟩ := h
    have e2 := ER0_fr (ER0_fr e q3 q1 (by decide) (by decide)) s1 s2 (by decide) (by decide)
    rw [hS]
    have f2 : FR [136, 138, 140] [139] [89, 90, 135] [88, 91, 93, 107, 134, 137] w u2 := FR.tr q3 (FR.mo s1 (by decide) (by decide) (by decide) (by decide))
    exact ok_bnd.mpr (ok_mono (up0 (kn := 0) e2 (PRG_fr hg f2 (by decide) (by decide)) hPB s3 (by omega) hN) (fun v _ h => ok_some.mpr (STP.pre (FR.mo f2 (by decide) (by decide) (by decide) (by decide)) (OTF_fr f2 (by decide)) (fun z _ => FR.A f2 (by decide)) h)))
theorem nonePart_ok {S S1 S3 : SG_M_error} {s many hg hb m r : Nat} (hS1 : S.1 = fm_M_error N S1) (hS2 : S.2.1 = fm_M_errorOf N S1) (hS3 : S1.2.2.2.2.2 = fm_M_goesUp N S3) (i : MEI Fv P PR w p n ow kd (ro (fr - 1) + hg) (rn (fr - 1) + rh (fr - 1) + m) bxM) (hg' : PRG w T C pM pE ND CN PN SN UN FN) (hPB : PB P PR) (h : FRS w T ND p fr ro rn rh cb pc ct k tp) (ht : TRS w T C ND CN p (ro (fr - 1)) (rn (fr - 1)) (rh (fr - 1)) k tp s many hg hb m r bxM) (h106 : A w 106 p = ((cb (fr - 1) + k : Nat) : Int)) (h109 : A w 109 p = 0) (h152 : F w 152 = 0) (hcl : CLG w (sR T pc (fr - 1) + r) 1 mu) (hN : 60000 ≤ N) :
    OK (fun w2 r2 => (r2 = I 0 ∧ RES Fv P PR T C ND CN p mu w w2) ∨ (r2 = I 1 ∧ s = 3 ∧ FR [154, 158] [] [110] [] w w2 ∧ F w2 158 = F w 158 + 1 ∧ F w 158 + 1 < bxM ∧ F w2 154 = F w 155 ∧ OTF p w w2)) (fm_M_nonePart N S w) := by
  have x4 := MEI_p i
  obtain ⟨⟨s1, s2, s3, s4, s42, s5, s6, s7, s8, s9⟩, u1, u2, u3, u4⟩ := id ht
  have er : ER0 Fv P PR T ND p w fr ro rn rh cb pc ct k tp n ow kd (ro (fr - 1) + hg) (rn (fr - 1) + rh (fr - 1) + m) bxM r mu := by
    refine ⟨i, h, fun z => ?_, ⟨by omega, by omega⟩, h106, s6, h109, h152, ?_⟩
    · obtain ⟨y1, y2, y3⟩ := u4.1 z
      exact ⟨by omega, by omega, y3⟩
    · obtain ⟨e1, e2, e3, e4⟩ := hcl
      exact ⟨e1, e2, e3, by omega⟩
  have done : ∀ x : Option (MS × Unit), OK (fun w2 _ => STP Fv P PR T ND p mu w w2) x → OK (fun w2 r2 => (r2 = I 0 ∧ RES Fv P PR T C ND CN p mu w w2) ∨ (r2 = I 1 ∧ s = 3 ∧ FR [154, 158] [] [110] [] w w2 ∧ F w2 158 = F w 158 + 1 ∧ F w 158 + 1 < bxM ∧ F w2 154 = F w 155 ∧ OTF p w w2)) (bnd x (fun u1 _ => fb_M_nonePart_122 N S () u1)) := fun x hx => by
    unfold fb_M_nonePart_122
    exact ok_bnd.mpr (ok_mono hx (fun v _ hv => ok_ck.mpr ⟨rfl, ok_some.mpr (Or.inl ⟨rfl, RES_stp hv⟩)⟩))
  unfold fm_M_nonePart fb_M_nonePart_0
  rw [I_F' s1, show (3 : Int32) = I 3 from rfl, show (2 : Int32) = I 2 from rfl, lit1q, decE (by omega) (by omega) (by omega) (by omega), decE (by omega) (by omega) (by omega) (by omega), decE (by omega) (by omega) (by omega) (by omega)]
  refine ok_br.mpr ⟨fun z3 => ?_, fun z3 => ok_br.mpr ⟨fun z1 => ?_, fun z1 => ok_br.mpr ⟨fun z2 => ?_, fun z2 => ?_⟩⟩⟩
  · have es : s = 3 := by have := of_decide_eq_true z3; omega
    obtain ⟨v0, v1, v2, q, v3, v4, v5, v6, v7, v8, v9, v10, v11, v12, v13⟩ := u3 es
    have b30 : bxM ≤ 30 := i.2.2.2.2.2.2.2.2.2.2.2.1.2
    obtain ⟨k8, hk8⟩ : ∃ k8 : Nat, F w 158 = k8 := ⟨(F w 158).toNat, by omega⟩
    refine ok_lt.mpr ?_
    rw [I_F' hk8, I_add, wi_e]
    have f4 : FR [158] [] [] [] w (wi w 158 ((k8 : Int) + 1)) := FR.wi FR.rf (by decide)
    have e4 : F (wi w 158 ((k8 : Int) + 1)) 158 = (k8 : Int) + 1 := by rw [F_wi (by omega) (by omega), if_pos rfl]
    generalize wi w 158 ((k8 : Int) + 1) = w4 at *
    have m4 : F w4 133 = p := by rw [FR.F f4 (by decide)]; exact i.2.2.1
    rw [I_F' m4, I_F' e4]
    refine ok_ck.mpr ⟨inb_at (k := 110) (n := 24) rfl (by omega) (by omega) (by decide), ok_lt.mpr ?_⟩
    rw [I_tn (x := (p : Int)) (by omega) (by omega), Int.toNat_natCast, wa_e]
    have f5 : FR [158] [] [110] [] w (wa w4 110 p ((k8 : Int) + 1)) := FR.wa (FR.mo f4 (by decide) (by decide) (by decide) (by decide)) (by decide)
    have e5 : F (wa w4 110 p ((k8 : Int) + 1)) 158 = (k8 : Int) + 1 := e4
    have o5 : OTF p w (wa w4 110 p ((k8 : Int) + 1)) := OTF.tr (OTF_fr f4 (by decide)) (OTF_110 (by omega) (by omega))
    generalize wa w4 110 p ((k8 : Int) + 1) = w5 at *
    have m5 : F w5 133 = p := by rw [FR.F f5 (by decide)]; exact i.2.2.1
    have p108 : A w5 108 p = ((bxM : Nat) : Int) := by rw [FR.A f5 (by decide)]; exact i.2.2.2.2.2.2.2.2.2.2.2.1.1
    rw [I_F' m5, I_F' e5]
    refine ok_ck.mpr ⟨inb_at (k := 108) (n := 24) rfl (by omega) (by omega) (by decide), ?_⟩
    rw [I_tn (x := (p : Int)) (by omega) (by omega), Int.toNat_natCast, I_A' p108, decI (by omega) (by omega) (by omega) (by omega)]
    refine ok_br.mpr ⟨fun y => ?_, fun y => ?_⟩
    · refine ok_ck.mpr ⟨inb_at (k := 108) (n := 24) rfl (by omega) (by omega) (by decide), ok_ck.mpr ⟨inb_at (k := 110) (n := 24) rfl (by omega) (by omega) (by decide), ok_lt.mpr ?_⟩⟩
      rw [wa_e]
      have f6 : FR [158] [] [110] [] w (wa w5 110 p bxM) := FR.wa f5 (by decide)
      have e6 : 0 ≤ A (wa w5 110 p bxM) 110 p := by rw [A_eq (by omega) (by omega), if_pos rfl]; omega
      have o6 : OTF p w (wa w5 110 p bxM) := OTF.tr o5 (OTF_110 (by omega) (by omega))
      generalize wa w5 110 p bxM = w6 at *
      have am := afterMessages_ok (N := N) (mu := mu) (q := q) (r := r) (C := C) (CN := CN) (by rw [v6, v7]; exact MEI_fr i f6 (by decide) (by decide) (by decide) (by decide) (by decide) (by decide) (by decide) (by decide) (by decide) (by decide) (by decide) (by decide) (by decide) (by decide) (by decide) (by decide) (by decide) (by decide)) (PRG_fr hg' f6 (by decide) (by decide)) (by rw [v9, v10]; exact FRS_fr h f6 (by decide) (by decide) (by decide) (by decide) (by decide) (by decide) (by decide) (by decide) (by decide) (by decide)) (by rw [FR.F f6 (by decide)]; exact v3) v4 (by rw [FR.A f6 (by decide)]; exact v5) v11 v8.symm (by rw [FR.A f6 (by decide), v9]; exact h106) (by rw [FR.A f6 (by decide)]; exact h109) (by rw [FR.F f6 (by decide)]; exact h152) (fun z => by rw [FR.A f6 (by decide)] at z; rw [f6.2.2.2 111 (by decide)]; exact v13 z) e6 (by omega) (by unfold CLG; rw [FR.F f6 (by decide), FR.F f6 (by decide)]; exact hcl)
      exact ok_bnd.mpr (ok_mono am (fun u _ hu => ok_ck.mpr ⟨rfl, ok_some.mpr (Or.inl ⟨rfl, RES.tr (FR.mo f6 (by decide) (by decide) (by decide) (by decide)) o6 (fun z _ => FR.A f6 (by decide)) hu (Nat.le_refl _)⟩)⟩))
    · have hy := of_decide_eq_false y
      refine ok_lt.mpr (ok_ck.mpr ⟨rfl, ok_some.mpr (Or.inr ⟨rfl, es, ?_⟩)⟩)
      have r155 := F_r w5 155
      rw [I_F (k := 155), wi_e]
      refine ⟨FR.wi (FR.mo f5 (by decide) (by decide) (by decide) (by decide)) (by decide), ?_, by omega, ?_, OTF.tr o5 (OTF_fr (FR.wi FR.rf (by decide) : FR [154] [] [] [] w5 _) (by decide))⟩
      · rw [F_wi r155.1 r155.2, if_neg (by decide), e5, hk8]
      · rw [F_wi r155.1 r155.2, if_pos rfl, FR.F f5 (by decide)]
  · have es : s = 1 := by have := of_decide_eq_true z1; omega
    rw [es, if_neg (by omega), if_pos rfl] at s3
    obtain ⟨t1, t2⟩ := top_ok (N := N) (k := 0) i (by omega)
    rw [lit0q, show (0 : Int) = ((0 : Nat) : Int) from rfl, t1, bnd_so, hS2]
    exact done _ (errorOf0 (a := 15) hS3 er hg' hPB t2 (by omega) hN)
  · unfold fb_M_nonePart_119
    rw [hS1]
    exact done _ (error0 (a := 16) hS3 er hg' hPB (by omega) hN)
  · unfold fb_M_nonePart_119
    rw [hS1]
    exact done _ (error0 (a := 14) hS3 er hg' hPB (by omega) hN)
end
end
section
section
variable {Fv : Int64 → Int64 → Prop} {P : Int64 → Prop} {w w2 : MS} {PR N p n n2 opM bnM bxM ND fr k tp mu CN PN SN UN FN rq : Nat} {ow kd ow2 kd2 ro rn rh cb pc ct pM pE : Nat → Nat} {T : TY} {C : CY}
theorem TRS_fr {is ls as js : List Nat} {a1 a2 a3 s many hg hb m r : Nat} (ht : TRS w T C ND CN p a1 a2 a3 k tp s many hg hb m r bxM) (f : FR is ls as js w w2) (hi : ∀ k, k ∈ [149, 150, 151, 153, 154, 155, 156, 158, 159] → k ∉ is) (ha : ∀ k, k ∈ [23, 25, 31, 41] → k ∉ as) (hj : 111 ∉ js) : TRS w2 T C ND CN p a1 a2 a3 k tp s many hg hb m r bxM := by
  obtain ⟨⟨s1, s2⟩, u1, u2, u3, u4⟩ := ht
  have cls : ∀ x, CLS C w CN many hg hb m a3 k tp r x → CLS C w2 CN many hg hb m a3 k tp r x := fun x ⟨c', d1, d2, d3, d4⟩ => ⟨c', d1, d2, by rw [FR.A f (ha _ (by decide))]; exact d3, d4⟩
  refine ⟨⟨by rw [FR.F f (hi _ (by decide))]; exact s1, s2⟩, by rw [FR.F f (hi _ (by decide))]; exact u1, ?_, fun z => ?_, fun z => ?_, by rw [FR.F f (hi _ (by decide)), FR.F f (hi _ (by decide)), FR.F f (hi _ (by decide))]; exact u4.2⟩
  · rw [FR.F f (hi _ (by decide))]
    rcases u2 with u2 | u2
    · exact Or.inl u2
    · exact Or.inr (cls _ u2)
  · obtain ⟨v0, v1, v2, q, v3, v4, v5, v6⟩ := u3 z
    obtain ⟨v6, v7, v8, v9, v10, v11, v12, v13⟩ := v6
    rw [FR.F f (hi _ (by decide)), FR.F f (hi _ (by decide))]
    exact ⟨cls _ v0, v1, v2, q, by rw [FR.F f (hi _ (by decide))]; exact v3, v4, by rw [FR.A f (ha _ (by decide))]; exact v5, v6, v7, v8, v9, v10, v11, v12, fun y => by rw [FR.A f (ha _ (by decide))] at y; rw [f.2.2.2 111 hj]; exact v13 y⟩
  · rw [FR.A f (ha _ (by decide))]; exact u4.1 z
theorem TRS_at {is ls as js : List Nat} {a1 a2 a3 s many hg hb m r : Nat} (ht : TRS w T C ND CN p a1 a2 a3 k tp s many hg hb m r bxM) (f : FR is ls as js w w2) (hi : ∀ k, k ∈ [149, 150, 151, 153, 155, 156, 159] → k ∉ is) (ha : ∀ k, k ∈ [23, 25, 31, 41] → k ∉ as) (hj : 111 ∉ js) (h4 : F w2 154 = -1 ∨ CLS C w CN many hg hb m a3 k tp r (F w2 154)) (h8 : s = 3 → 0 ≤ F w2 158 ∧ F w2 158 < bxM) : TRS w2 T C ND CN p a1 a2 a3 k tp s many hg hb m r bxM := by
  obtain ⟨⟨s1, s2⟩, u1, u2, u3, u4⟩ := ht
  have cls : ∀ x, CLS C w CN many hg hb m a3 k tp r x → CLS C w2 CN many hg hb m a3 k tp r x := fun x ⟨c', d1, d2, d3, d4⟩ => ⟨c', d1, d2, by rw [FR.A f (ha _ (by decide))]; exact d3, d4⟩
  refine ⟨⟨by rw [FR.F f (hi _ (by decide))]; exact s1, s2⟩, by rw [FR.F f (hi _ (by decide))]; exact u1, ?_, fun z => ?_, fun z => ?_, by rw [FR.F f (hi _ (by decide)), FR.F f (hi _ (by decide)), FR.F f (hi _ (by decide))]; exact u4.2⟩
  · rcases h4 with u2 | u2
    · exact Or.inl u2
    · exact Or.inr (cls _ u2)
  · obtain ⟨v0, v1, v2, q, v3, v4, v5, v6⟩ := u3 z
    obtain ⟨v6, v7, v8, v9, v10, v11, v12, v13⟩ := v6
    rw [FR.F f (hi _ (by decide))]
    exact ⟨cls _ v0, (h8 z).1, (h8 z).2, q, by rw [FR.F f (hi _ (by decide))]; exact v3, v4, by rw [FR.A f (ha _ (by decide))]; exact v5, v6, v7, v8, v9, v10, v11, v12, fun y => by rw [FR.A f (ha _ (by decide))] at y; rw [f.2.2.2 111 hj]; exact v13 y⟩
  · rw [FR.A f (ha _ (by decide))]; exact u4.1 z
set_option maxRecDepth 100000 in
theorem choose_loop {S S1 S2 S3 : SG_M_error} {s many hg hb m r : Nat} (hS0 : S.2.2.1 = fm_M_nonePart N S1) (hS1 : S1.1 = fm_M_error N S2) (hS2 : S1.2.1 = fm_M_errorOf N S2) (hS3 : S2.2.2.2.2.2 = fm_M_goesUp N S3) (hg' : PRG w T C pM pE ND CN PN SN UN FN) (hPB : PB P PR) (hF : FVH Fv) (hat : ATM w) (hP : ∀ t, P t → PA w t) (h : FRS w T ND p fr ro rn rh cb pc ct k tp) (h106 : A w 106 p = ((cb (fr - 1) + k : Nat) : Int)) (h109 : A w 109 p = 0) (h152 : F w 152 = 0) (hN : 60000 ≤ N) :
    ∀ (fu B d b ctt : Nat) (v : MS), FR [154, 158] [] [94, 110, 160, 162] [93, 141, 161, 163] w v → OTF p w v → MEI Fv P PR v p n ow kd (ro (fr - 1) + hg) b bxM → rn (fr - 1) + rh (fr - 1) + m ≤ b → TRS v T C ND CN p (ro (fr - 1)) (rn (fr - 1)) (rh (fr - 1)) k tp s many hg hb m r bxM → (s = 3 → F v 158 + B = bxM) → (s ≠ 3 → B = 0) → 1 ≤ ctt → (∀ c : Nat, F v 154 = c → CN - c = d ∧ cT C c + 1 < ctt) → CLG v (sR T pc (fr - 1) + r) ((B * 16002 + ctt : Nat) : Int) mu → B * 1500 + d + 1 < fu → OK (fun w2 _ => RES Fv P PR T C ND CN p mu w w2) (gg_M_choose N S fu v (I 1)) := by
  intro fu
  induction fu with
  | zero => intro B d b ctt v _ _ _ _ _ _ _ _ _ _ z; exact absurd z (Nat.not_lt_zero _)
  | succ fu ih =>
    intro B d b ctt v fv ov iv hb' tv hB hB0 hc1 hd cl hf
    have x4 := MEI_p iv
    have hf60 := h.1
    have cn := hg'.1.2.1
    have nd := hg'.1.1
    have hro := (h.2.2.1 (fr - 1) (by omega)).2.2.2.2
    have rgo : -2147483648 ≤ ((ro (fr - 1) + hg : Nat) : Int) ∧ ((ro (fr - 1) + hg : Nat) : Int) < 2147483648 := by have := tv.1.2.2.2.2.2.2.2.1; omega
    have zero : ∀ u : MS, RES Fv P PR T C ND CN p mu w u → OK (fun w2 _ => RES Fv P PR T C ND CN p mu w w2) (gg_M_choose N S fu u (I 0)) := fun u hu => by
      obtain ⟨f2, hf2⟩ : ∃ f2, fu = f2 + 1 := ⟨fu - 1, by omega⟩
      subst hf2
      show OK _ (fb_M_choose_2 N S (gg_M_choose N S f2) u (I 0))
      unfold fb_M_choose_2
      rw [lit0q, decide_eq_true rfl, br_tq]
      exact ok_some.mpr hu
    show OK _ (fb_M_choose_2 N S (gg_M_choose N S fu) v (I 1))
    unfold fb_M_choose_2
    obtain ⟨⟨s1, s2, s3, s4, s42, s5, s6, s7, s8, s9⟩, u1, -, u3, -⟩ := id tv
    rw [lit0q, decE (by omega) (by omega) (by omega) (by omega), decide_eq_false (by omega), br_fq, I_F' iv.2.2.1]
    refine ok_ck.mpr ⟨inb_at (k := 94) (n := 24) rfl (by omega) (by omega) (by decide), ok_lt.mpr ?_⟩
    rw [I_tn (x := (p : Int)) (by omega) (by omega), Int.toNat_natCast, I_F' u1, wa_e]
    have f1 : FR [] [] [94] [] v (wa v 94 p ((rn (fr - 1) + rh (fr - 1) + m : Nat) : Int)) := FR.wa FR.rf (by decide)
    have o1 : OTF p v (wa v 94 p ((rn (fr - 1) + rh (fr - 1) + m : Nat) : Int)) := OTF_at f1 (i0 := p) (fun j hj => by rw [A_eq (by omega) (by omega), if_neg hj]) (Or.inl ⟨by decide, rfl⟩)
    have i1 := names_less iv (k := rn (fr - 1) + rh (fr - 1) + m) hb'
    generalize wa v 94 p ((rn (fr - 1) + rh (fr - 1) + m : Nat) : Int) = w1 at *
    have fw : FR [154, 158] [] [94, 110, 160, 162] [93, 141, 161, 163] w w1 := FR.tr fv (FR.mo f1 (by decide) (by decide) (by decide) (by decide))
    have ow1 : OTF p w w1 := OTF.tr ov o1
    have t1 := TRS_fr tv f1 (by decide) (by decide) (by decide)
    have g1 := PRG_fr hg' fw (by decide) (by decide)
    have h1 := FRS_fr h fw (by decide) (by decide) (by decide) (by decide) (by decide) (by decide) (by decide) (by decide) (by decide) (by decide)
    have a6 : A w1 106 p = ((cb (fr - 1) + k : Nat) : Int) := by rw [FR.A fw (by decide)]; exact h106
    have a9 : A w1 109 p = 0 := by rw [FR.A fw (by decide)]; exact h109
    have a52 : F w1 152 = 0 := by rw [FR.F fw (by decide)]; exact h152
    have cl1 : CLG w1 (sR T pc (fr - 1) + r) ((B * 16002 + ctt : Nat) : Int) mu := by unfold CLG; rw [FR.F f1 (by decide), FR.F f1 (by decide)]; exact cl
    have cl1' : CLG w1 (sR T pc (fr - 1) + r) 1 mu := by obtain ⟨e1, e2, e3, e4⟩ := cl1; exact ⟨e1, e2, e3, by omega⟩
    have e154 : F w1 154 = F v 154 := FR.F f1 (by decide)
    have e158 : F w1 158 = F v 158 := FR.F f1 (by decide)
    have r154 := F_r w1 154
    have back : ∀ u, RES Fv P PR T C ND CN p mu w1 u → RES Fv P PR T C ND CN p mu w u := fun u hu => RES.tr (FR.mo fw (by decide) (by decide) (by decide) (by decide)) ow1 (fun z _ => FR.A fw (by decide)) hu (Nat.le_refl _)
    rw [I_F (k := 154), litm1q, decE r154.1 r154.2 (by omega) (by omega)]
    refine ok_br.mpr ⟨fun zn => ?_, fun zn => ?_⟩
    · 
      rw [hS0]
      refine ok_bnd.mpr (ok_mono (nonePart_ok (N := N) (C := C) (CN := CN) hS1 hS2 hS3 i1 g1 hPB h1 t1 a6 a9 a52 cl1' hN) (fun u r8 hu => ?_))
      rcases hu with ⟨y1, y2⟩ | ⟨y1, y2, y3, y4, y5, y6, y7⟩
      · rw [y1]; exact zero u (back u y2)
      · rw [y1]
        obtain ⟨v0, v1, v2, -⟩ := t1.2.2.2.1 y2
        have v0' := v0
        obtain ⟨c', d1, d2, d3, d4⟩ := v0'
        have fu' : FR [154, 158] [] [94, 110, 160, 162] [93, 141, 161, 163] w u := FR.tr fw (FR.mo y3 (by decide) (by decide) (by decide) (by decide))
        have hB' := hB y2
        refine ih (B - 1) (CN - c') (rn (fr - 1) + rh (fr - 1) + m) 16002 u fu' (OTF.tr ow1 y7) (MEI_fr i1 y3 (by decide) (by decide) (by decide) (by decide) (by decide) (by decide) (by decide) (by decide) (by decide) (by decide) (by decide) (by decide) (by decide) (by decide) (by decide) (by decide) (by decide) (by decide)) (Nat.le_refl _) (TRS_at t1 y3 (by decide) (by decide) (by decide) (Or.inr (by rw [y6]; exact v0)) (fun _ => by omega)) (fun _ => by omega) (fun z => absurd y2 z) (by omega) (fun c hc => ?_) ?_ (by omega)
        · have : c = c' := by omega
          subst this
          exact ⟨rfl, by have := (hg'.2.2.2.1 c d2).2.1; omega⟩
        · obtain ⟨e1, e2, e3, e4⟩ := cl1
          unfold CLG
          rw [FR.F y3 (by decide), FR.F y3 (by decide)]
          refine ⟨e1, e2, e3, ?_⟩
          have : ((B - 1) * 16002 + 16002 : Nat) = B * 16002 := by omega
          rw [this]
          omega
    · 
      have zn' := of_decide_eq_false zn
      have u2' : CLS C w1 CN many hg hb m (rh (fr - 1)) k tp r (F w1 154) := by
        rcases t1.2.2.1 with u2 | u2
        · exact absurd u2 zn'
        · exact u2
      obtain ⟨c, hc, hc2⟩ : ∃ c : Nat, F w1 154 = c ∧ c < CN := by obtain ⟨c', d1, d2, -⟩ := u2'; exact ⟨c', d1, d2⟩
      rw [hc] at u2'
      obtain ⟨dd, ctl⟩ := hd c (by omega)
      obtain ⟨-, c41, c3, c4, c5, c6, cg, -, cx⟩ := cls_c (s := 0) g1 u2'
      refine ok_bnd.mpr (ok_mono (fitsPart_ok (N := N) i1 g1 hF (ATM_fr hat fw (by decide) (by decide)) (PA_fr hP fw (by decide)) h1 t1 hc (by omega)) (fun u r2 hu => ?_))
      obtain ⟨y1, y2⟩ := hu
      have f2 := y1.1
      have o2 : OTF p w1 u := ⟨fun z hz => ⟨FR.A f2 (by decide), y1.2 z hz, FR.A f2 (by decide), FR.A f2 (by decide)⟩, fun j _ => ⟨FR.A f2 (by decide), FR.A f2 (by decide), FR.A f2 (by decide), FR.A f2 (by decide)⟩, fun j _ => ⟨FR.A f2 (by decide), FR.A f2 (by decide), FR.A f2 (by decide), FR.A f2 (by decide)⟩, OTF_9 f2 (by decide)⟩
      have fwu : FR [154, 158] [] [94, 110, 160, 162] [93, 141, 161, 163] w u := FR.tr fw (FR.mo f2 (by decide) (by decide) (by decide) (by decide))
      have c2 : F u 154 = c := by rw [FR.F f2 (by decide)]; exact hc
      have m2 : F u 133 = p := by rw [FR.F f2 (by decide)]; exact i1.2.2.1
      have t2 := TRS_fr t1 f2 (by decide) (by decide) (by decide)
      have back2 : ∀ x, RES Fv P PR T C ND CN p mu u x → RES Fv P PR T C ND CN p mu w x := fun x hx => back x (RES.tr (FR.mo f2 (by decide) (by decide) (by decide) (by decide)) o2 (fun z _ => FR.A f2 (by decide)) hx (Nat.le_refl _))
      refine ok_br.mpr ⟨fun z0 => ?_, fun z0 => ?_⟩
      · obtain ⟨b2, y3, y4⟩ : ∃ b2, MEI Fv P PR u p n ow kd (ro (fr - 1) + hg) b2 bxM ∧ rn (fr - 1) + rh (fr - 1) + m ≤ b2 := by
          rcases y2 with ⟨y2, -⟩ | ⟨-, b2, y3, y4⟩
          · exfalso; rw [y2] at z0; exact absurd (of_decide_eq_true z0) (by decide)
          · exact ⟨b2, y3, y4⟩
        rw [I_F' c2]
        refine ok_ck.mpr ⟨inb_at (k := 45) (n := 1400) rfl (by omega) (by omega) (by decide), ok_lt.mpr ?_⟩
        have r45 := A_r u 45 c
        rw [I_tn (x := (c : Int)) (by omega) (by omega), Int.toNat_natCast, I_A (k := 45), wi_e]
        have e45 : A u 45 c = A w1 45 c := FR.A f2 (by decide)
        have f3 : FR [154] [] [] [] u (wi u 154 (A u 45 c)) := FR.wi FR.rf (by decide)
        have e3 : F (wi u 154 (A u 45 c)) 154 = A w1 45 c := by rw [F_wi r45.1 r45.2, if_pos rfl, e45]
        generalize wi u 154 (A u 45 c) = w3 at *
        have e8 : F w3 158 = F v 158 := by rw [FR.F f3 (by decide), FR.F f2 (by decide)]; exact e158
        have f13 : FR [154] [] [94, 160, 162] [93, 141, 161, 163] w1 w3 := FR.tr (FR.mo f2 (by decide) (by decide) (by decide) (by decide)) (FR.mo f3 (by decide) (by decide) (by decide) (by decide))
        have next : ∀ (dn : Nat) (ctn : Nat), 1 ≤ ctn → (∀ c : Nat, F w3 154 = c → CN - c = dn ∧ cT C c + 1 < ctn) → ctn ≤ ctt → dn < d → (F w3 154 = -1 ∨ CLS C w1 CN many hg hb m (rh (fr - 1)) k tp r (F w3 154)) → OK (fun w2 _ => RES Fv P PR T C ND CN p mu w w2) (gg_M_choose N S fu w3 (I 1)) := fun dn ctn h1' h2' h3' h4' h5' => by
          refine ih B dn b2 ctn w3 (FR.tr fwu (FR.mo f3 (by decide) (by decide) (by decide) (by decide))) (OTF.tr (OTF.tr ow1 o2) (OTF_fr f3 (by decide))) (MEI_ints y3 f3 (by decide)) y4 (TRS_at t1 f13 (by decide) (by decide) (by decide) h5' (fun z => by rw [e8]; exact ⟨(u3 z).2.1, (u3 z).2.2.1⟩)) (fun z => by rw [e8]; exact hB z) hB0 h1' h2' ?_ (by omega)
          obtain ⟨e1, e2, e3', e4⟩ := cl1
          unfold CLG
          rw [FR.F f13 (by decide), FR.F f13 (by decide)]
          exact ⟨e1, e2, e3', by omega⟩
        rcases cx with cx | ⟨d2, cx1, cx2, cx3, cx4⟩
        · exact next 0 1 (by omega) (fun c' hc' => by omega) hc1 (by omega) (Or.inl (by rw [e3]; exact cx))
        · refine next (CN - d2) ctt hc1 (fun c' hc' => ?_) (Nat.le_refl _) ?_ (Or.inr (by rw [e3, cx1]; exact cx4))
          · have : c' = d2 := by omega
            subst this
            exact ⟨rfl, by omega⟩
          · rw [← dd]; exact Nat.sub_lt_sub_left hc2 cx2
      · have y3 : MEI Fv P PR u p n ow kd (ro (fr - 1) + hg) (rn (fr - 1) + rh (fr - 1) + cN C c) bxM := by
          rcases y2 with ⟨-, y3⟩ | ⟨y2, -⟩
          · exact y3
          · exact absurd y2 (of_decide_eq_false z0)
        have g2 := PRG_fr g1 f2 (by decide) (by decide)
        have h2 := FRS_fr h1 f2 (by decide) (by decide) (by decide) (by decide) (by decide) (by decide) (by decide) (by decide) (by decide) (by decide)
        have b6 : A u 106 p = ((cb (fr - 1) + k : Nat) : Int) := by rw [FR.A f2 (by decide)]; exact a6
        have b9 : A u 109 p = 0 := by rw [FR.A f2 (by decide)]; exact a9
        have e42 : A u 42 c = A w1 42 c := FR.A f2 (by decide)
        have r42 := A_r u 42 c
        rw [I_F' c2]
        refine ok_ck.mpr ⟨inb_at (k := 42) (n := 1400) rfl (by omega) (by omega) (by decide), ?_⟩
        rw [I_tn (x := (c : Int)) (by omega) (by omega), Int.toNat_natCast, I_A (k := 42), decE r42.1 r42.2 (by omega) (by omega)]
        refine ok_br.mpr ⟨fun _ => ?_, fun z4 => ?_⟩
        · exact ok_bnd.mpr (ok_mono (chosen_ok (N := N) (mu := mu) y3 g2 h2 t2 c2 b6 b9 (by unfold CLG; rw [FR.F f2 (by decide), FR.F f2 (by decide)]; exact cl1') (by omega)) (fun x _ hx => zero x (back2 x hx)))
        · obtain ⟨g, gg1, gg2, gg3, gg4, gg5⟩ := cg.resolve_left (fun z => of_decide_eq_false z4 (by rw [e42]; exact z))
          refine ok_lt.mpr ?_
          rw [lit1q, wi_e]
          have f4 : FR [152] [] [] [] u (wi u 152 1) := FR.wi FR.rf (by decide)
          have e4 : F (wi u 152 1) 152 = 1 := by rw [F_wi (by omega) (by omega), if_pos rfl]
          have i4 := MEI_ints y3 f4 (by decide)
          generalize wi u 152 1 = w4 at *
          rw [I_F' i4.2.2.1]
          refine ok_ck.mpr ⟨inb_at (k := 92) (n := 24) rfl (by omega) (by omega) (by decide), ok_lt.mpr ?_⟩
          rw [I_tn (x := (p : Int)) (by omega) (by omega), Int.toNat_natCast, I_A' i4.2.2.2.2.2.2.2.2.2.1.1, wi_e]
          have f5 : FR [152, 157] [] [] [] u (wi w4 157 ((ro (fr - 1) + hg : Nat) : Int)) := FR.wi (FR.mo f4 (by decide) (by decide) (by decide) (by decide)) (by decide)
          have e5 : F (wi w4 157 ((ro (fr - 1) + hg : Nat) : Int)) 157 = ((ro (fr - 1) + hg : Nat) : Int) := by rw [F_wi rgo.1 rgo.2, if_pos rfl]
          have e52 : F (wi w4 157 ((ro (fr - 1) + hg : Nat) : Int)) 152 = 1 := by rw [F_wi rgo.1 rgo.2, if_neg (by decide)]; exact e4
          generalize wi w4 157 ((ro (fr - 1) + hg : Nat) : Int) = w5 at *
          have i5 := MEI_ints y3 f5 (by decide)
          have c5' : F w5 154 = c := by rw [FR.F f5 (by decide)]; exact c2
          obtain ⟨n1, n2, n3, n4, n5, n6, n7, n8, -⟩ := (g1.2.2.1 g gg2).1
          obtain ⟨c', nc1, nc2, nc3, nc4, nc5, nc6, nc7, nc8⟩ := n8 (by omega)
          obtain rfl : c' = c := by omega
          obtain ⟨c'', cc1, cc2, cc3, cc4, cc5, cc6, cc7, cc8, cc9, cc10⟩ := u2'
          obtain rfl : c'' = c' := by omega
          rw [I_F' c5']
          refine ok_ck.mpr ⟨inb_at (k := 42) (n := 1400) rfl (by omega) (by omega) (by decide), ?_⟩
          rw [I_tn (x := (c'' : Int)) (by omega) (by omega), Int.toNat_natCast, I_A' (show A w5 42 c'' = g by rw [FR.A f5 (by decide), e42]; exact gg1)]
          refine ok_bnd.mpr (ok_mono (at_ok (N := N) (q := g) (by rw [gg3, nc3]; exact i5) (by rw [nc5, nc6, cc8, cc9]; exact FRS_fr h2 f5 (by decide) (by decide) (by decide) (by decide) (by decide) (by decide) (by decide) (by decide) (by decide) (by decide)) gg2 nd (by rw [nc4, cc7]) (by rw [FR.A f5 (by decide), nc5, cc8]; exact b6)) (fun x _ hx => ?_))
          obtain ⟨x1, x2, x3⟩ := hx
          have fx : FR [152, 157] [] [98] [] u x := FR.tr (FR.mo f5 (by decide) (by decide) (by decide) (by decide)) (FR.mo x2 (by decide) (by decide) (by decide) (by decide))
          refine zero x (back2 x ⟨Or.inr (Or.inr ⟨mu - 1, ?_, fr, ro, rn, rh, cb, pc, ct, g, n, ow, kd, bxM, x1, by rw [FR.A fx (by decide)]; exact b9, Or.inr ⟨by rw [FR.F x2 (by decide)]; exact e52, c'', s, many, hg, hb, m, r, ?_, gg4, by rw [FR.F x2 (by decide)]; exact c5', by rw [FR.F x2 (by decide)]; exact e5, ?_⟩⟩), Or.inl (FR.mo fx (by decide) (by decide) (by decide) (by decide)), OTF.tr (OTF_fr f5 (by decide)) x3, fun z _ => FR.A fx (by decide)⟩)
          · obtain ⟨q1, q2, q3, q4⟩ := cl1; omega
          · rw [nc5, nc6, cc8, cc9]; exact TRS_fr t2 fx (by decide) (by decide) (by decide)
          · obtain ⟨q1, q2, q3, q4⟩ := cl1
            unfold CLG
            rw [FR.F fx (by decide), FR.F fx (by decide), FR.F f2 (by decide), FR.F f2 (by decide)]
            refine ⟨q1, q2, q3, ?_⟩
            by_cases es : s = 3
            · have := hB es
              rw [if_pos es, FR.F fx (by decide), FR.F f2 (by decide), e158]
              omega
            · have := hB0 es
              rw [if_neg es]
              omega
end
end
section
section
variable {Fv : Int64 → Int64 → Prop} {P : Int64 → Prop} {w w2 : MS} {PR N p n n2 opM bnM bxM ND fr k tp mu CN PN SN UN FN rq q : Nat} {ow kd ow2 kd2 ro rn rh cb pc ct pM pE : Nat → Nat} {T : TY} {C : CY}
theorem rc_s {d : Nat} : rc_M_error N (d + 1) = (fm_M_error N (rc_M_error N d), fm_M_errorOf N (rc_M_error N d), fm_M_nonePart N (rc_M_error N d), fm_M_choose N (rc_M_error N d), fm_M_guardFails N (rc_M_error N d), fm_M_goesUp N (rc_M_error N d)) := rfl
def PGM (Fv : Int64 → Int64 → Prop) (P : Int64 → Prop) (PR : Nat) (T : TY) (C : CY) (pM pE : Nat → Nat) (ND CN PN SN UN FN : Nat) (w : MS) : Prop := PRG w T C pM pE ND CN PN SN UN FN ∧ PB P PR ∧ FVH Fv ∧ ATM w ∧ ∀ t, P t → PA w t
theorem PGM_fr {is ls as js : List Nat} (h : PGM Fv P PR T C pM pE ND CN PN SN UN FN w) (f : FR is ls as js w w2) (hi : ∀ k, k ∈ [14, 52, 56] → k ∉ is) (ha : ∀ k, k ∈ 12 :: 13 :: KP → k ∉ as) : PGM Fv P PR T C pM pE ND CN PN SN UN FN w2 :=
  ⟨PRG_fr h.1 f hi (fun k hk => ha k (List.mem_cons_of_mem _ (List.mem_cons_of_mem _ hk))), h.2.1, h.2.2.1, ATM_fr h.2.2.2.1 f (hi _ (by decide)) (ha _ (by decide)), PA_fr h.2.2.2.2 f (hi _ (by decide))⟩
theorem choose_ok {d s many hg hb m r b ctt : Nat} (hp : PGM Fv P PR T C pM pE ND CN PN SN UN FN w) (h : FRS w T ND p fr ro rn rh cb pc ct k tp) (h106 : A w 106 p = ((cb (fr - 1) + k : Nat) : Int)) (h109 : A w 109 p = 0) (h152 : F w 152 = 0) (i : MEI Fv P PR w p n ow kd (ro (fr - 1) + hg) b bxM) (hb' : rn (fr - 1) + rh (fr - 1) + m ≤ b) (ht : TRS w T C ND CN p (ro (fr - 1)) (rn (fr - 1)) (rh (fr - 1)) k tp s many hg hb m r bxM) (hc1 : 1 ≤ ctt) (hd : ∀ c : Nat, F w 154 = c → cT C c + 1 < ctt) (cl : CLG w (sR T pc (fr - 1) + r) ((if s = 3 then (bxM : Int) - F w 158 else 0) * 16002 + ctt) mu) (hN : 60000 ≤ N) : OK (fun w2 _ => RES Fv P PR T C ND CN p mu w w2) (fm_M_choose N (rc_M_error N (d + 3)) w) := by
  have x4 := MEI_p i
  have b30 : bxM ≤ 30 := i.2.2.2.2.2.2.2.2.2.2.2.1.2
  have cn := hp.1.1.2.1
  obtain ⟨B, hB1, hB2, hB3⟩ : ∃ B : Nat, (s = 3 → F w 158 + B = bxM) ∧ (s ≠ 3 → B = 0) ∧ B ≤ 30 := by
    by_cases e : s = 3
    · have := (ht.2.2.2.1 e).2
      exact ⟨((bxM : Int) - F w 158).toNat, fun _ => by omega, fun z => absurd e z, by omega⟩
    · exact ⟨0, fun z => absurd z e, fun _ => rfl, by omega⟩
  obtain ⟨d0, hd0, hd1⟩ : ∃ d0 : Nat, (∀ c : Nat, F w 154 = c → CN - c = d0) ∧ d0 ≤ 1400 := ⟨CN - (F w 154).toNat, fun c hc => by omega, by omega⟩
  refine choose_loop (N := N) (S := rc_M_error N (d + 3)) (S1 := rc_M_error N (d + 2)) (S2 := rc_M_error N (d + 1)) (S3 := rc_M_error N d) rfl rfl rfl rfl hp.1 hp.2.1 hp.2.2.1 hp.2.2.2.1 hp.2.2.2.2 h h106 h109 h152 hN N B d0 b ctt w FR.rf (OTF_fr (FR.rf : FR [] [] [] [] w w) (by decide)) i hb' ht hB1 hB2 hc1 (fun c hc => ⟨hd0 c hc, hd c hc⟩) ?_ (by omega)
  obtain ⟨e1, e2, e3, e4⟩ := cl
  refine ⟨e1, e2, e3, ?_⟩
  by_cases e : s = 3
  · have := hB1 e
    rw [if_pos e] at e4
    omega
  · have := hB2 e
    rw [if_neg e] at e4
    omega
def ERX (Fv : Int64 → Int64 → Prop) (P : Int64 → Prop) (PR : Nat) (T : TY) (C : CY) (ND CN p : Nat) (w : MS) (fr : Nat) (ro rn rh cb pc ct : Nat → Nat) (q n : Nat) (ow kd : Nat → Nat) (opM bnM bxM mu : Nat) : Prop :=
  MEI Fv P PR w p n ow kd opM bnM bxM ∧ FRS w T ND p fr ro rn rh cb pc ct (tK T q) (tC T q) ∧ q < ND ∧ rh (fr - 1) = tL T q ∧ A w 106 p = ((cb (fr - 1) + tK T q : Nat) : Int) ∧ A w 109 p = 0 ∧ ro (fr - 1) + tB T q ≤ opM ∧ rn (fr - 1) + rh (fr - 1) + tM T q ≤ bnM ∧ MODE w T C ND CN p (ro (fr - 1)) (rn (fr - 1)) (rh (fr - 1)) (sR T pc (fr - 1)) q bxM mu
theorem ERX_0 (e : ERX Fv P PR T C ND CN p w fr ro rn rh cb pc ct q n ow kd opM bnM bxM mu) (hg : PRG w T C pM pE ND CN PN SN UN FN) (h152 : F w 152 = 0) : ER0 Fv P PR T ND p w fr ro rn rh cb pc ct (tK T q) (tC T q) n ow kd opM bnM bxM (tR T q) mu := by
  obtain ⟨h1, h2, h3, h4, h5, h6, h7, h8, h9⟩ := e
  obtain ⟨n1, n2, n3, n4, n5, n6, n7, -⟩ := (hg.2.2.1 q h3).1
  refine ⟨h1, h2, fun z => ?_, ⟨by omega, by omega⟩, h5, n3, h6, h152, ?_⟩
  · obtain ⟨-, -, -, -, s5, s6, s7⟩ := n7 z
    exact ⟨by omega, by omega, s7⟩
  · rcases h9 with ⟨-, -, y⟩ | ⟨y, -⟩
    · obtain ⟨e1, e2, e3, e4⟩ := y
      exact ⟨e1, e2, e3, by omega⟩
    · omega
theorem guardFails_ok {d : Nat} (e : ERX Fv P PR T C ND CN p w fr ro rn rh cb pc ct q n ow kd opM bnM bxM mu) (hp : PGM Fv P PR T C pM pE ND CN PN SN UN FN w) (h152 : F w 152 = 1) (hN : 60000 ≤ N) : OK (fun w2 _ => RES Fv P PR T C ND CN p mu w w2) (fm_M_guardFails N (rc_M_error N (d + 4)) w) := by
  obtain ⟨i, h2, h3, h4, h5, h6, h7, h8, h9⟩ := e
  have x4 := MEI_p i
  obtain ⟨-, c, s, many, hg, hb, m, r, t1, t2, t3, t4, t5⟩ : F w 152 = 1 ∧ ∃ c s many hg hb m r, TRS w T C ND CN p (ro (fr - 1)) (rn (fr - 1)) (rh (fr - 1)) (tK T q) (tC T q) s many hg hb m r bxM ∧ tG T q = c + 1 ∧ F w 154 = ((c : Nat) : Int) ∧ F w 157 = ((ro (fr - 1) + hg : Nat) : Int) ∧ CLG w (sR T pc (fr - 1) + r) ((if s = 3 then (bxM : Int) - F w 158 else 0) * 16002 + tR T q + 1) mu := by
    rcases h9 with ⟨-, y, -⟩ | y
    · omega
    · exact y
  obtain ⟨c', nc1, nc2, nc3, nc4, nc5, nc6, nc7, nc8⟩ := (hp.1.2.2.1 q h3).1.2.2.2.2.2.2.2.1 (by omega)
  obtain rfl : c' = c := by omega
  have u2' : CLS C w CN many hg hb m (rh (fr - 1)) (tK T q) (tC T q) r ((c' : Nat) : Int) := by
    rcases t1.2.2.1 with u2 | u2
    · omega
    · rw [← t3]; exact u2
  obtain ⟨-, -, k3, k4, k5, -, -, -, cx⟩ := cls_c (s := 0) hp.1 u2'
  have cn := hp.1.1.2.1
  have s7 := t1.1.2.2.2.2.2.2.2.1
  have hf60 := h2.1
  have hro := (h2.2.2.1 (fr - 1) (by omega)).2.2.2.2.1
  unfold fm_M_guardFails fb_M_guardFails_0
  refine ok_lt.mpr ?_
  rw [show upI w 152 0 = wi w 152 0 from rfl]
  have f1 : FR [152] [] [] [] w (wi w 152 0) := FR.wi FR.rf (by decide)
  have e1 : F (wi w 152 0) 152 = 0 := by rw [F_wi (by decide) (by decide), if_pos rfl]
  have i1 := MEI_ints i f1 (by decide)
  generalize wi w 152 0 = w1 at *
  have e157 : F w1 157 = ((ro (fr - 1) + hg : Nat) : Int) := by rw [FR.F f1 (by decide)]; exact t4
  rw [I_F' i1.2.2.1, I_F' e157]
  refine ok_ck.mpr ⟨inb_at (k := 92) (n := 24) rfl (by omega) (by omega) (by decide), ok_lt.mpr ?_⟩
  rw [I_tn (x := (p : Int)) (by omega) (by omega), Int.toNat_natCast, wa_e]
  have f2 : FR [152] [] [92] [] w (wa w1 92 p ((ro (fr - 1) + hg : Nat) : Int)) := FR.wa (FR.mo f1 (by decide) (by decide) (by decide) (by decide)) (by decide)
  have o2 : OTF p w (wa w1 92 p ((ro (fr - 1) + hg : Nat) : Int)) := OTF.tr (OTF_fr f1 (by decide)) (OTF_at (FR.wa FR.rf (by decide) : FR [] [] [92] [] w1 _) (i0 := p) (fun j hj => by rw [A_eq (by omega) (by omega), if_neg hj]) (Or.inl ⟨by decide, rfl⟩))
  have e2 : F (wa w1 92 p ((ro (fr - 1) + hg : Nat) : Int)) 152 = 0 := e1
  have i2 := ops_less i1 (k := ro (fr - 1) + hg) (by omega)
  generalize wa w1 92 p ((ro (fr - 1) + hg : Nat) : Int) = v2 at *
  have c2 : F v2 154 = c' := by rw [FR.F f2 (by decide)]; exact t3
  rw [I_F' c2]
  refine ok_ck.mpr ⟨inb_at (k := 45) (n := 1400) rfl (by omega) (by omega) (by decide), ok_lt.mpr ?_⟩
  have r45 := A_r v2 45 c'
  rw [I_tn (x := (c' : Int)) (by omega) (by omega), Int.toNat_natCast, I_A (k := 45), wi_e]
  have f3 : FR [152, 154] [] [92] [] w (wi v2 154 (A v2 45 c')) := FR.wi (FR.mo f2 (by decide) (by decide) (by decide) (by decide)) (by decide)
  have o3 : OTF p w (wi v2 154 (A v2 45 c')) := OTF.tr o2 (OTF_fr (FR.wi FR.rf (by decide) : FR [154] [] [] [] v2 _) (by decide))
  have e3 : F (wi v2 154 (A v2 45 c')) 152 = 0 := by rw [F_wi r45.1 r45.2, if_neg (by decide)]; exact e2
  have e34 : F (wi v2 154 (A v2 45 c')) 154 = A w 45 c' := by rw [F_wi r45.1 r45.2, if_pos rfl, FR.A f2 (by decide)]
  have i3 := MEI_ints i2 (FR.wi FR.rf (by decide) : FR [154] [] [] [] v2 (wi v2 154 (A v2 45 c'))) (by decide)
  generalize wi v2 154 (A v2 45 c') = w3 at *
  have e8 : F w3 158 = F w 158 := FR.F f3 (by decide)
  have nx : F w3 154 = -1 ∨ CLS C w CN many hg hb m (rh (fr - 1)) (tK T q) (tC T q) r (F w3 154) := by
    rw [e34]
    rcases cx with cx | ⟨d2, y1, y2, y3, y4⟩
    · exact Or.inl cx
    · exact Or.inr (by rw [y1]; exact y4)
  clear cx
  have tr := TRS_at t1 f3 (by decide) (by decide) (by decide) nx (fun z => by rw [e8]; exact ⟨(t1.2.2.2.1 z).2.1, (t1.2.2.2.1 z).2.2.1⟩)
  have := choose_ok (N := N) (d := d) (mu := mu) (ctt := tR T q + 1) (PGM_fr hp f3 (by decide) (by decide)) (FRS_fr h2 f3 (by decide) (by decide) (by decide) (by decide) (by decide) (by decide) (by decide) (by decide) (by decide) (by decide)) (by rw [FR.A f3 (by decide)]; exact h5) (by rw [FR.A f3 (by decide)]; exact h6) e3 i3 (by omega) tr (by omega) (fun c hc => by have := nc8 c (by rw [← e34]; exact hc); omega) (by obtain ⟨q1, q2, q3, q4⟩ := t5; unfold CLG; rw [FR.F f3 (by decide), FR.F f3 (by decide), e8]; exact ⟨q1, q2, q3, by omega⟩) hN
  exact ok_bnd.mpr (ok_mono this (fun u _ hu => ok_some.mpr (RES.tr (FR.mo f3 (by decide) (by decide) (by decide) (by decide)) o3 (fun z _ => FR.A f3 (by decide)) hu (Nat.le_refl _))))
theorem up_ok {t : Int64} {kn : Int} {d : Nat} (e : ERX Fv P PR T C ND CN p w fr ro rn rh cb pc ct q n ow kd opM bnM bxM mu) (hp : PGM Fv P PR T C pM pE ND CN PN SN UN FN w) (g : GT n ow kd P t) (hk : 0 ≤ kn ∧ kn ≤ 2) (hN : 60000 ≤ N) : OK (fun w2 _ => RES Fv P PR T C ND CN p mu w w2) (fm_M_goesUp N (rc_M_error N (d + 5)) w (I kn) t) := by
  have h9 := e.2.2.2.2.2.2.2.2
  by_cases h152 : F w 152 = 0
  · exact ok_mono (up0 (ERX_0 e hp.1 h152) hp.1 hp.2.1 g hk hN) (fun v _ h => RES_stp h)
  · have h1 : F w 152 = 1 := by
      rcases h9 with ⟨-, y, -⟩ | ⟨y, -⟩
      · exact absurd y h152
      · exact y
    clear h9
    unfold fm_M_goesUp fb_M_goesUp_0
    rw [I_F' h1, lit0q, decE (by omega) (by omega) (by omega) (by omega), decide_eq_false (by omega), br_fq, rc_s]
    exact ok_bnd.mpr (ok_mono (guardFails_ok (d := d) e hp h1 hN) (fun u _ hu => ok_some.mpr hu))
theorem err_ok {a : Int} (e : ERX Fv P PR T C ND CN p w fr ro rn rh cb pc ct q n ow kd opM bnM bxM mu) (hp : PGM Fv P PR T C pM pE ND CN PN SN UN FN w) (ha : 0 ≤ a ∧ a < 22) (hN : 60000 ≤ N) : OK (fun w2 _ => RES Fv P PR T C ND CN p mu w w2) (fr_M_error N w (I a)) := by
  unfold fr_M_error
  rw [show (20 : Nat) = 19 + 1 from rfl, rc_s]
  show OK _ (fm_M_error N (rc_M_error N 19) w (I a))
  unfold fm_M_error fb_M_error_0
  rw [lit1q, term_e, bnd_so, show (19 : Nat) = 18 + 1 from rfl, rc_s]
  exact ok_bnd.mpr (ok_mono (up_ok (kn := 0) (d := 13) e hp (Or.inl ⟨nh_mk (by omega), hp.2.1.1 a ha.1 ha.2⟩) (by omega) hN) (fun v _ h => ok_some.mpr h))
theorem errOf_ok {a : Int} {t : Int64} (e : ERX Fv P PR T C ND CN p w fr ro rn rh cb pc ct q n ow kd opM bnM bxM mu) (hp : PGM Fv P PR T C pM pE ND CN PN SN UN FN w) (g : GT n ow kd P t) (ha : 0 ≤ a ∧ a < 22) (hN : 60000 ≤ N) : OK (fun w2 _ => RES Fv P PR T C ND CN p mu w w2) (fr_M_errorOf N w (I a) t) := by
  have h9 := e.2.2.2.2.2.2.2.2
  unfold fr_M_errorOf
  rw [show (20 : Nat) = 19 + 1 from rfl, rc_s]
  show OK _ (fm_M_errorOf N (rc_M_error N 19) w (I a) t)
  by_cases h152 : F w 152 = 0
  · exact ok_mono (errorOf0 (S2 := rc_M_error N 18) rfl (ERX_0 e hp.1 h152) hp.1 hp.2.1 g ha hN) (fun v _ h => RES_stp h)
  · have h1 : F w 152 = 1 := by
      rcases h9 with ⟨-, y, -⟩ | ⟨y, -⟩
      · exact absurd y h152
      · exact y
    clear h9
    unfold fm_M_errorOf fb_M_errorOf_0
    rw [I_F' h1, lit0q, decE (by omega) (by omega) (by omega) (by omega), decide_eq_false (by omega), br_fq, show (19 : Nat) = 18 + 1 from rfl, rc_s]
    exact ok_bnd.mpr (ok_mono (guardFails_ok (d := 14) e hp h1 hN) (fun u _ hu => ok_some.mpr hu))
theorem fails_ok (e : ERX Fv P PR T C ND CN p w fr ro rn rh cb pc ct q n ow kd opM bnM bxM mu) (hp : PGM Fv P PR T C pM pE ND CN PN SN UN FN w) (h1 : F w 152 = 1) (hN : 60000 ≤ N) : OK (fun w2 _ => RES Fv P PR T C ND CN p mu w w2) (fr_M_guardFails N w) := by
  unfold fr_M_guardFails
  rw [show (20 : Nat) = 19 + 1 from rfl, rc_s]
  exact guardFails_ok (d := 15) e hp h1 hN
theorem ups_ok {t : Int64} {kn : Int} (e : ERX Fv P PR T C ND CN p w fr ro rn rh cb pc ct q n ow kd opM bnM bxM mu) (hp : PGM Fv P PR T C pM pE ND CN PN SN UN FN w) (g : GT n ow kd P t) (hk : 0 ≤ kn ∧ kn ≤ 2) (hN : 60000 ≤ N) : OK (fun w2 _ => RES Fv P PR T C ND CN p mu w w2) (fr_M_goesUp N w (I kn) t) := by
  unfold fr_M_goesUp
  rw [show (20 : Nat) = 19 + 1 from rfl, rc_s]
  exact up_ok (d := 14) e hp g hk hN
end
end
section
section
variable {Fv : Int64 → Int64 → Prop} {P : Int64 → Prop} {u v w w2 : MS} {PR N p n n2 opM bnM bxM bx2 ND fr k tp mu CN PN SN UN FN rq q m h mm : Nat} {ow kd ow2 kd2 ro rn rh cb pc ct pM pE : Nat → Nat} {T : TY} {C : CY}
theorem MODE_nx {is ls as js : List Nat} {a1 a2 a3 sr : Nat} (hm : MODE u T C ND CN p a1 a2 a3 sr q bxM mu) (hx : NX T q m h mm) (f : FR is ls as js u v) (hi : ∀ k, k ∈ [149, 150, 151, 152, 153, 154, 155, 156, 157, 158, 159, 164, 165] → k ∉ is) (ha : ∀ k, k ∈ [23, 25, 31, 41] → k ∉ as) (hj : 111 ∉ js) (hb : bx2 = bxM ∨ tG T q = 0) : ∃ m2, m2 < mu ∧ MODE v T C ND CN p a1 a2 a3 sr m bx2 m2 := by
  obtain ⟨n1, n2, n3, n4, n5, n6, n7, n8, n9⟩ := hx
  rcases hm with ⟨y1, y2, y3⟩ | ⟨y1, c, s, many, hg, hb', mm', r, t1, t2, t3, t4, t5⟩
  · obtain ⟨e1, e2, e3, e4⟩ := y3
    refine ⟨mu - 1, by omega, Or.inl ⟨by rw [n5]; exact y1, by rw [FR.F f (hi _ (by decide))]; exact y2, ?_⟩⟩
    unfold CLG
    rw [FR.F f (hi _ (by decide)), FR.F f (hi _ (by decide))]
    exact ⟨e1, e2, e3, by omega⟩
  · obtain ⟨e1, e2, e3, e4⟩ := t5
    have hb2 : bx2 = bxM := by omega
    subst hb2
    have e8 : s = 3 → 0 ≤ F u 158 ∧ F u 158 < bx2 := fun z => ⟨(t1.2.2.2.1 z).2.1, (t1.2.2.2.1 z).2.2.1⟩
    have pos : 0 ≤ (if s = 3 then (bx2 : Int) - F u 158 else 0) := by
      by_cases e : s = 3
      · rw [if_pos e]; have := e8 e; omega
      · rw [if_neg e]; omega
    refine ⟨mu - 1, by omega, Or.inr ⟨by rw [FR.F f (hi _ (by decide))]; exact y1, c, s, many, hg, hb', mm', r, by rw [n4, n8]; exact TRS_fr t1 f (fun k hk => hi k (by revert hk; simp; omega)) ha hj, by rw [n5]; exact t2, by rw [FR.F f (hi _ (by decide))]; exact t3, by rw [FR.F f (hi _ (by decide))]; exact t4, ?_⟩⟩
    unfold CLG
    rw [FR.F f (hi _ (by decide)), FR.F f (hi _ (by decide)), FR.F f (hi _ (by decide))]
    exact ⟨e1, e2, e3, by omega⟩
theorem nxt {is ls as js : List Nat} (e : ERX Fv P PR T C ND CN p u fr ro rn rh cb pc ct q n ow kd opM bnM bxM mu) (hm : m < ND) (hx : NX T q m h mm) (f : FR is ls as js u v) (hi : ∀ k, k ∈ [149, 150, 151, 152, 153, 154, 155, 156, 157, 158, 159, 164, 165] → k ∉ is) (ha : ∀ k, k ∈ [23, 25, 31, 41, 95, 99, 100, 101, 102, 103, 104, 105, 106] → k ∉ as) (hj : 111 ∉ js) (h98 : A v 98 (60 * p + (fr - 1)) = ((m : Nat) : Int)) (h98' : ∀ j, j ≠ 60 * p + (fr - 1) → A v 98 j = A u 98 j) (h109 : A v 109 p = 0) (i : MEI Fv P PR v p n2 ow2 kd2 (ro (fr - 1) + h) (rn (fr - 1) + rh (fr - 1) + mm) bx2) (hb : bx2 = bxM ∨ tG T q = 0) : ∃ m2, m2 < mu ∧ STE Fv P PR T C ND CN p m2 v := by
  obtain ⟨-, h2, h3, h4, h5, h6, h7, h8, h9⟩ := e
  obtain ⟨m2, q1, q2⟩ := MODE_nx h9 hx f hi (fun k hk => ha k (by revert hk; simp; omega)) hj hb
  obtain ⟨n1, n2', n3, n4, n5, n6, n7, n8, n9⟩ := hx
  exact ⟨m2, q1, fr, ro, rn, rh, cb, pc, ct, m, n2, ow2, kd2, bx2, ⟨by rw [n1, n2']; exact i, by rw [n4, n8]; exact FRS_98 h2 f (fun k hk => ha k (by revert hk; simp; omega)) h98', h98, hm, by rw [n3]; exact h4, by rw [FR.A f (ha _ (by decide)), n4]; exact h5⟩, h109, q2⟩
theorem nxtR {is ls as js : List Nat} (e : ERX Fv P PR T C ND CN p u fr ro rn rh cb pc ct q n ow kd opM bnM bxM mu) (hm : m < ND) (hx : NX T q m h mm) (f : FR is ls as js u v) (hi : ∀ k, k ∈ [149, 150, 151, 152, 153, 154, 155, 156, 157, 158, 159, 164, 165] → k ∉ is) (ha : ∀ k, k ∈ [23, 25, 31, 41, 95, 98, 99, 100, 101, 102, 103, 104, 105, 106, 109] → k ∉ as) (hj : 111 ∉ js) (h98 : A u 98 (60 * p + (fr - 1)) = ((m : Nat) : Int)) (i : MEI Fv P PR v p n2 ow2 kd2 (ro (fr - 1) + h) (rn (fr - 1) + rh (fr - 1) + mm) bxM) (hs : STF0 u v) (ho : OTF p u v) : RES Fv P PR T C ND CN p mu u v :=
  ⟨Or.inr (Or.inr (nxt e hm hx f hi (fun k hk => ha k (by revert hk; simp; omega)) hj (by rw [FR.A f (ha _ (by decide))]; exact h98) (fun j _ => FR.A f (ha _ (by decide))) (by rw [FR.A f (ha _ (by decide))]; exact e.2.2.2.2.2.1) i (Or.inl rfl))), Or.inl hs, ho, fun z _ => FR.A f (ha _ (by decide))⟩
theorem at_node {fr : Nat} {x : Nat} (a : ATQ Fv P PR T ND p w fr ro rn rh cb pc ct q n ow kd bxM) (h109 : A w 109 p = 0) (hm : MODE w T C ND CN p (ro (fr - 1)) (rn (fr - 1)) (rh (fr - 1)) (sR T pc (fr - 1)) q bxM mu) (hx : x < 100000) (hg : PRG w T C pM pE ND CN PN SN UN FN) : OK (fun v _ => ERX Fv P PR T C ND CN p v fr ro rn rh cb pc ct q n ow kd (ro (fr - 1) + tH T q) (rn (fr - 1) + rh (fr - 1) + tM T q) bxM mu ∧ A v 98 (60 * p + (fr - 1)) = ((x : Nat) : Int) ∧ FR [] [] [98] [] w v ∧ OTF p w v) (fm_M_goTo N w (I x)) := by
  obtain ⟨i, h, a3, a4, a5, a6⟩ := a
  have x4 := MEI_p i
  have hf := h.1
  obtain ⟨n1, n2, n3, n4, -⟩ := (hg.2.2.1 q a4).1
  rw [goTo_ok i h.1.2.2 ⟨h.1.1, h.1.2.1⟩ hx]
  have f98 : FR [] [] [98] [] w (wa w 98 (60 * p + (fr - 1)) x) := FR.wa FR.rf (by decide)
  have e98 : ∀ j, A (wa w 98 (60 * p + (fr - 1)) x) 98 j = if j = 60 * p + (fr - 1) then (x : Int) else A w 98 j := fun j => A_eq (by omega) (by omega)
  refine ok_some.mpr ⟨⟨MEI_fr i f98 (by decide) (by decide) (by decide) (by decide) (by decide) (by decide) (by decide) (by decide) (by decide) (by decide) (by decide) (by decide) (by decide) (by decide) (by decide) (by decide) (by decide) (by decide), FRS_98 h f98 (by decide) (fun j hj => by rw [e98, if_neg hj]), a4, a5, by rw [FR.A f98 (by decide)]; exact a6, by rw [FR.A f98 (by decide)]; exact h109, by omega, Nat.le_refl _, ?_⟩, by rw [e98, if_pos rfl], f98, OTF_at f98 (i0 := 60 * p + (fr - 1)) (fun j hj => by rw [e98, if_neg hj]) (Or.inr (Or.inl ⟨by decide, by omega, by omega⟩))⟩
  rcases hm with ⟨y1, y2, y3⟩ | ⟨y1, c, s, many, hg', hb', mm', r, t1, t2, t3, t4, t5⟩
  · exact Or.inl ⟨y1, y2, y3⟩
  · exact Or.inr ⟨y1, c, s, many, hg', hb', mm', r, TRS_fr t1 f98 (by decide) (by decide) (by decide), t2, t3, t4, t5⟩
end
end
