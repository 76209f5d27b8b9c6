section
variable {Fv : Int64 → Int64 → Prop} {P : Int64 → Prop} {w0 w w2 : MS} {PR N q n n2 opM bnM bxM : Nat} {ow kd ow2 kd2 : Nat → Nat}
def SRC (Fv : Int64 → Int64 → Prop) (P : Int64 → Prop) (w : MS) (o q n : Nat) (x : Int64) (s : Nat) : Prop := o < 25 ∧ ∃ nS owS kdS f, nS ≤ 500 ∧ (o = q → nS ≤ n) ∧ HP (hp w o) nS owS kdS Fv P ∧ SZ (hp w o) nS owS kdS Fv P f x s
theorem SRC_st {o s : Nat} {x : Int64} (h : SRC Fv P w o q n x s) (h1 : o ≠ q → ∀ i, i < 500 → hp w2 o i = hp w o i) (h2 : o = q → ∀ i, i < n → hp w2 o i = hp w o i) (hn : n ≤ n2) : SRC Fv P w2 o q n2 x s := by
  obtain ⟨a, nS, owS, kdS, f, b, c, d, e⟩ := h
  have hc : ∀ i, i < nS → hp w2 o i = hp w o i := fun i hi => by
    by_cases z : o = q
    · exact h2 z i (by have := c z; omega)
    · exact h1 z i (by omega)
  exact ⟨a, nS, owS, kdS, f, b, fun z => by have := c z; omega, HP_own d (Nat.le_refl _) (fun i hi _ => hc i hi) (fun _ _ _ => rfl) (fun _ _ _ => rfl) (fun i hi e => ⟨hi, e⟩), SZ_ext (Nat.le_refl _) hc (fun _ _ => rfl) (fun _ _ => rfl) (fun _ _ q => q) (fun _ q => q) e⟩
theorem SRC_cell {o s i : Nat} {x t : Int64} (hq : q < 24) (hi5 : i < 500) (h : SRC Fv P w o q n x s) (hi : n ≤ i) (hn : n ≤ n2) : SRC Fv P (wj w 88 (500 * q + i) t) o q n2 x s :=
  SRC_st h (fun hz j hj => by unfold hp; rw [J_wj, if_pos rfl, if_neg (by omega)]) (fun hz j hj => by unfold hp; rw [J_wj, if_pos rfl, if_neg (by omega)]) hn
theorem SRC_nh {o : Nat} {x : Int64} (ho : o < 25) (h1 : ¬ isH x) (h2 : P x) : SRC Fv P w o q n x 0 :=
  ⟨ho, 0, fun _ => 1, fun _ => 0, 1, by omega, fun _ => Nat.zero_le _, fun t ht g => by
    rcases g with ⟨z, -⟩ | ⟨-, -, z, -⟩
    · exact absurd ht z
    · omega, Or.inl ⟨h1, h2, rfl⟩⟩
theorem cpMQ {o s : Nat} {x : Int64} (m : MQq Fv P w0 w q n ow kd opM bnM bxM) (h : SRC Fv P w o q n x s) (hs : n + s ≤ 500) (hN : 3000 ≤ N) :
    OK (fun w2 r => ∃ ow2 kd2 f, MQq Fv P w0 w2 q (n + s) ow2 kd2 opM bnM bxM ∧ (∀ i, i < n → hp w2 q i = hp w q i) ∧ (∀ z, z < n → ow2 z = ow z) ∧ SZ (hp w2 q) (n + s) ow2 kd2 Fv P f r s) (fm_M_copy N w (I o) x (I q)) := by
  have m' := m
  obtain ⟨m1, ⟨x1, x2, x3, x4, -⟩, -⟩ := m
  obtain ⟨a, nS, owS, kdS, f, b, c, d, e⟩ := h
  refine ok_mono (copy_ok (N := N) a (show q < 25 by omega) b hs c d e m1 hN) (fun w2 r hc => ?_)
  obtain ⟨c1, c2, c3, cc, st, src, oo, c4, c5⟩ := hc
  have cell : ∀ i, i < n → hp w2 q i = hp w q i := fun i hi => by unfold hp; exact c3 _ (by omega)
  obtain ⟨ow2, kd2, g1, g2, g3, g4, g5⟩ := CPI_end d x2 c4 cell
  refine ⟨ow2, kd2, f, MQ_heap m' c1 (by rw [c2, if_pos rfl]) hs (fun p hp1 => by rw [c2, if_neg hp1]) (fun i hi => c3 i (by omega)) g1 g2, cell, g5, g4 f r x s c5 e⟩
def MSG (Fv : Int64 → Int64 → Prop) (P : Int64 → Prop) (PR : Nat) (w0 : MS) (q : Nat) (w : MS) : Prop :=
  DW Fv P PR w ∧ FR [136, 138, 140, 150] [139] [89, 90, 108, 109, 135, 142, 145, 146, 147] [88, 91, 93, 107, 134, 137, 141, 148] w0 w ∧ (∀ p, p ≠ q → A w 109 p = A w0 109 p ∧ A w 108 p = A w0 108 p ∧ A w 89 p = A w0 89 p) ∧ (A w 109 q = A w0 109 q ∨ A w 109 q = 3) ∧ (∀ i, ¬ (500 * q ≤ i ∧ i < 500 * q + 500) → w.2.2.2 88 i = w0.2.2.2 88 i) ∧ (∀ i, ¬ (46000 * q ≤ i ∧ i < 46000 * q + 46000) → w.2.2.2 91 i = w0.2.2.2 91 i) ∧ (∀ i, ¬ (2500 * q ≤ i ∧ i < 2500 * q + 2500) → w.2.2.2 93 i = w0.2.2.2 93 i)
theorem box_ok {m0 : Int64} (m : MQq Fv P w0 w q n ow kd opM bnM bxM) (d : DW Fv P PR w0) (hq : q < PR) (hal : A w0 109 q ≠ 3) (hb : bxM < 30) (g : GT n ow kd P m0) : OK (fun w2 _ => MSG Fv P PR w0 q w2) (fb_M_message_406 N () w (I q) m0) := by
  have dw := MQ_dw m d hq hal
  have m' := m
  obtain ⟨m1, ⟨x1, x2, x3, x4, x5, x6, x7, x8, x9, x10, x11⟩, m3, m4, m5, m6, m7, m8, m9⟩ := m
  unfold fb_M_message_406
  rw [inb_at (k := 108) (n := 24) rfl (by omega) (by omega) (by decide), ck_t, I_tn (x := (q : Int)) (by omega) (by omega), Int.toNat_natCast, I_A' x7.1, show (30 : Int32) = I 30 from rfl, I_mul, I_add, inb_at (k := 107) (n := 720) rfl (by omega) (by omega) (by decide), ck_t, lt_e, I_tn (by omega) (by omega), show ((q : Int) * 30 + (bxM : Int)).toNat = 30 * q + bxM from by omega, wj_e, ck_t, ck_t, lt_e, show (wj w 107 (30 * q + bxM) m0).2.2.1 108 q = I bxM from I_A' x7.1, lit1q, I_add, wa_e]
  generalize hz : wa (wj w 107 (30 * q + bxM) m0) 108 q ((bxM : Int) + 1) = z
  have fz : FR [] [] [108] [107] w z := by rw [← hz]; exact FR.wa (FR.wj FR.rf (by decide)) (by decide)
  have a108 : ∀ i, A z 108 i = if i = q then (bxM : Int) + 1 else A w 108 i := fun i => by rw [← hz, A_eq (by omega) (by omega)]; rfl
  have j107 : ∀ i, z.2.2.2 107 i = if i = 30 * q + bxM then m0 else w.2.2.2 107 i := fun i => by rw [← hz, J_wa, J_wj, if_pos rfl]
  have f140 : F z 140 = -1 := by rw [FR.F fz (by decide)]; exact m4
  have hpz : hp z q = hp w q := by unfold hp; rw [fz.2.2.2 88 (by decide)]
  have alw : A w 109 q ≠ 3 := by rw [FR.A m3 (by decide)]; exact hal
  refine ok_some.mpr ⟨DW_q dw hq alw ⟨n, ow, kd, opM, bnM, bxM + 1, by rw [FR.A fz (by decide)]; exact m1, rfl, by rw [hpz]; exact x2, x3, x4, by rw [FR.A fz (by decide)]; exact x5, by rw [FR.A fz (by decide)]; exact x6, ⟨by rw [a108, if_pos rfl]; omega, by omega⟩, fun i hi => by rw [fz.2.2.2 91 (by decide)]; exact x8 i hi, fun i hi => by rw [fz.2.2.2 93 (by decide)]; exact x9 i hi, fun i hi => ?_, fun z => by omega⟩ (FR.mo fz (by decide) (by decide) (by decide) (by decide)) f140 (fun p _ => FR.A fz (by decide)) (fun p _ => FR.A fz (by decide)) (fun p _ => FR.A fz (by decide)) (fun p hp1 => by rw [a108, if_neg hp1]) (fun i _ => by rw [fz.2.2.2 88 (by decide)]) (fun i _ => by rw [fz.2.2.2 91 (by decide)]) (fun i _ => by rw [fz.2.2.2 93 (by decide)]) (fun i hi => by rw [j107, if_neg (by omega)]), FR.tr (FR.mo m3 (by decide) (by decide) (by decide) (by decide)) (FR.mo fz (by decide) (by decide) (by decide) (by decide)), fun p hp1 => ⟨by rw [FR.A fz (by decide), FR.A m3 (by decide)], by rw [a108, if_neg hp1, FR.A m3 (by decide)], by rw [FR.A fz (by decide)]; exact m5 p hp1⟩, Or.inl (by rw [FR.A fz (by decide), FR.A m3 (by decide)]), fun i hi => by rw [fz.2.2.2 88 (by decide)]; exact m6 i hi, fun i hi => by rw [fz.2.2.2 91 (by decide)]; exact m7 i hi, fun i hi => by rw [fz.2.2.2 93 (by decide)]; exact m8 i hi⟩
  rw [j107]
  by_cases e : i = bxM
  · subst e; rw [if_pos rfl]; exact g
  · rw [if_neg (by omega)]; exact x10 i (by omega)
def OUTB (P : Int64 → Prop) (w : MS) (q n : Nat) (ow : Nat → Nat) (k parts : Nat) : Prop := k + parts + 1 ≤ n ∧ (∀ j, j ≤ parts → k + j < ow (k + j)) ∧ HDP (hp w q k) parts ∧ (∀ j, 1 ≤ j → j < parts → ¬ isH (hp w q (k + j)) ∧ P (hp w q (k + j))) ∧ (parts = 3 ∨ parts = 4)
def CT (P : Int64 → Prop) (w : MS) (q n : Nat) (ow : Nat → Nat) (m0 : Int64) (at' : Int) (L : Nat) : Prop := (at' = -1 ∧ L = 0) ∨ ∃ k parts : Nat, at' = ((k + parts : Nat) : Int) ∧ m0 = mk 5 k ∧ OUTB P w q n ow k parts ∧ L = parts + 1
theorem CT_st {m0 : Int64} {at' : Int} {L : Nat} (c : CT P w q n ow m0 at' L) (h : ∀ i, i < n → hp w2 q i = hp w q i) (ho : ∀ i, i < n → ow2 i = ow i) (hn : n ≤ n2) : CT P w2 q n2 ow2 m0 at' L := by
  rcases c with c | ⟨k, parts, c1, c2, ⟨o1, o2, o3, o4, o5⟩, c3⟩
  · exact Or.inl c
  · refine Or.inr ⟨k, parts, c1, c2, ⟨by omega, fun j hj => by rw [ho _ (by omega)]; exact o2 j hj, by rw [h _ (by omega)]; exact o3, fun j h1 h2 => by rw [h _ (by omega)]; exact o4 j h1 h2, o5⟩, c3⟩
theorem m378_ok {m0 inner : Int64} {at' : Int} {L s f : Nat} (m : MQq Fv P w0 w q n ow kd opM bnM bxM) (d : DW Fv P PR w0) (hq : q < PR) (hal : A w0 109 q ≠ 3) (hb : bxM < 30) (c : CT P w q n ow m0 at' L) (z : SZ (hp w q) n ow kd Fv P f inner s) (hL : L + s ≤ 500) : OK (fun w2 _ => MSG Fv P PR w0 q w2) (fb_M_message_378 N () w (I q) m0 (I at') inner) := by
  have x3 := m.2.1.2.2.1
  have x4 := m.2.1.2.2.2.1
  unfold fb_M_message_378
  rcases c with ⟨c, -⟩ | ⟨k, parts, c1, c2, ⟨o1, o2, o3, o4, o5⟩, c3⟩
  · rw [c, litm1q, decE (by omega) (by omega) (by omega) (by omega), decide_eq_true rfl, br_tq]
    exact box_ok m d hq hal hb (SZ_gt z)
  · rw [c1, litm1q, decE (by omega) (by omega) (by omega) (by omega), decide_eq_false (by omega), br_fq, lit500, I_mul, I_add, inb_at (k := 88) (n := 12500) rfl (by omega) (by omega) (by decide), ck_t, lt_e, I_tn (by omega) (by omega), show ((q : Int) * 500 + ((k + parts : Nat) : Int)).toNat = 500 * q + (k + parts) from by omega, wj_e]
    have un := o2 parts (Nat.le_refl _)
    have mc := MQ_cell (t := inner) m (i := k + parts) (by omega) un
    have cell : ∀ i, hp (wj w 88 (500 * q + (k + parts)) inner) q i = if i = k + parts then inner else hp w q i := fun i => by
      unfold hp
      rw [J_wj, if_pos rfl]
      by_cases e : i = k + parts
      · rw [if_pos (by omega), if_pos e]
      · rw [if_neg (by omega), if_neg e]
    generalize hz : wj w 88 (500 * q + (k + parts)) inner = v at mc cell
    have own : ∀ i, i < n → ow i ≤ i → hp v q i = hp w q i := fun i _ hi => by rw [cell, if_neg (fun e => by subst e; omega)]
    have zv : SZ (hp v q) n ow kd Fv P f inner s := SZ_own (Nat.le_refl _) own (fun _ _ _ => rfl) (fun _ _ _ => rfl) (fun _ _ q => q) (fun _ q => q) z
    have e5 : so (mk 5 (k : Int)) = 5 := so_mk (by omega) (by omega)
    have v5 : va (mk 5 (k : Int)) = k := va_mk (by omega) (by omega)
    have n5 : vn (mk 5 (k : Int)) = k := by unfold vn; rw [v5]; omega
    have ck0 : hp v q k = hp w q k := by rw [cell, if_neg (by omega)]
    have bb : blk (hp v q) (mk 5 (k : Int)) = parts + 1 := by unfold blk; rw [e5, n5, ck0]; simp; unfold vn; rw [o3.1]; omega
    have pp : prt (mk 5 (k : Int)) = 1 := by unfold prt; rw [e5]; rfl
    have lst : hp v q (k + parts) = inner := by rw [cell, if_pos rfl]
    have mid : ∀ j, 1 ≤ j → j < parts → ¬ isH (hp v q (k + j)) ∧ P (hp v q (k + j)) := fun j h1 h2 => by rw [cell, if_neg (by omega)]; exact o4 j h1 h2
    obtain ⟨ow2, kd2, p1, p2, p3, p4, p5, p6, -⟩ := HP_put mc.2.1.2.1 (h2 := hp v q) (m := parts + 1) (k := k) (x := mk 5 (k : Int)) (fun _ _ => rfl) (by omega) (fun j hj => o2 j (by omega)) (Or.inr (Or.inl e5)) (by omega) n5 bb (fun _ => by rw [ck0]; exact ⟨by rw [o3.1]; omega, o3.2⟩) (fun e => by omega) (fun j h1 h2 => by
      rw [pp] at h1
      by_cases e : j = parts
      · rw [e, lst]; exact SZ_gt zv
      · exact Or.inl (mid j h1 (by omega))) (Or.inr (fun f2 c2 hc => by
      rw [pp] at hc ⊢
      have z0 : ∀ j, 1 ≤ j → j < parts → c2 j = 0 := fun j h1 h2 => by
        have := hc j h1 (by omega)
        cases f2 with
        | zero => exact this.elim
        | succ f2 =>
          rcases this with ⟨-, -, y⟩ | ⟨y, -⟩
          · exact y
          · exact absurd y (mid j h1 h2).1
      have zl : c2 parts = s := by
        have := hc parts (by omega) (by omega)
        rw [lst] at this
        exact SZ_fun this zv
      rcases o5 with e | e
      · subst e
        show 3 + 1 + (0 + c2 (1 + 0) + c2 (1 + 1) + c2 (1 + 2)) ≤ 500
        rw [show c2 (1 + 0) = 0 from z0 1 (by omega) (by omega), show c2 (1 + 1) = 0 from z0 2 (by omega) (by omega), show c2 (1 + 2) = s from zl]; omega
      · subst e
        show 4 + 1 + (0 + c2 (1 + 0) + c2 (1 + 1) + c2 (1 + 2) + c2 (1 + 3)) ≤ 500
        rw [show c2 (1 + 0) = 0 from z0 1 (by omega) (by omega), show c2 (1 + 1) = 0 from z0 2 (by omega) (by omega), show c2 (1 + 2) = 0 from z0 3 (by omega) (by omega), show c2 (1 + 3) = s from zl]; omega))
    have m2 : MQq Fv P w0 v q n ow2 kd2 opM bnM bxM := MQ_heap mc FR.rf mc.1 x3 (fun _ _ => rfl) (fun _ _ => rfl) p4 (fun t g => GT_own g (Nat.le_refl _) p1 p2)
    rw [c2]
    exact box_ok m2 d hq hal hb p5
end
