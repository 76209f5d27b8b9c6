section
variable {Fv : Int64 → Int64 → Prop} {P P2 : Int64 → Prop} {u v w w2 x y : MS} {PR PR2 N p n n2 opM bnM bxM bx2 ND fr k tp mu CN PN SN UN FN rq q m h mm AN z j : Nat} {ow kd ow2 kd2 ro rn rh cb pc ct pM pE : Nat → Nat} {T : TY} {C : CY}
theorem op_write {i : Nat} {t : Int64} (m : MEI Fv P PR w p n ow kd opM bnM bxM) (hi : i < opM) (g : GT n ow kd P t) : MEI Fv P PR (wj w 91 (46000 * p + i) t) p n ow kd opM bnM bxM := by
  have m' := m
  obtain ⟨m1, m2, m3, m4, m5, ⟨x1, x2, x3, x4, x5, x6, x7, x8, x9, x10, x11⟩⟩ := m
  have fz : FR [] [] [] [91] w (wj w 91 (46000 * p + i) t) := FR.wj FR.rf (by decide)
  have j91 : ∀ j, (wj w 91 (46000 * p + i) t).2.2.2 91 j = if j = 46000 * p + i then t else w.2.2.2 91 j := fun j => by rw [J_wj, if_pos rfl]
  have hpz : hp (wj w 91 (46000 * p + i) t) p = hp w p := by unfold hp; rw [fz.2.2.2 88 (by decide)]
  exact MEI_upd m' (FR.mo fz (by decide) (by decide) (by decide) (by decide)) m1.2.2.2.1 (fun q _ => FR.A fz (by decide)) (fun q _ => FR.A fz (by decide)) (fun q _ => FR.A fz (by decide)) (fun q _ => FR.A fz (by decide)) (fun j _ => by rw [fz.2.2.2 88 (by decide)]) (fun j hj => by rw [j91, if_neg (by omega)]) (fun j _ => by rw [fz.2.2.2 93 (by decide)]) (fun j _ => by rw [fz.2.2.2 107 (by decide)]) (by rw [FR.A fz (by decide)]; exact m5) ⟨rfl, by rw [hpz]; exact x2, x3, x4, by rw [FR.A fz (by decide)]; exact x5, by rw [FR.A fz (by decide)]; exact x6, by rw [FR.A fz (by decide)]; exact x7, fun j hj => by
    rw [j91]
    by_cases e : j = i
    · subst e; rw [if_pos rfl]; exact g
    · rw [if_neg (by omega)]; exact x8 j hj, fun j hj => by rw [fz.2.2.2 93 (by decide)]; exact x9 j hj, fun j hj => by rw [fz.2.2.2 107 (by decide)]; exact x10 j hj, fun e => by have : F w 140 = p := e; have := m1.2.2.2.1; omega⟩
theorem nm_write {h : Nat} (m : MEI Fv P PR w p n ow kd opM bnM bxM) (f : FR [] [] [94] [93] w w2) (h94 : A w2 94 p = ((bnM + h : Nat) : Int)) (h94' : ∀ y, y ≠ p → A w2 94 y = A w 94 y) (hl : bnM + h ≤ 2500) (out : ∀ i, ¬ (2500 * p + bnM ≤ i ∧ i < 2500 * p + 2500) → w2.2.2.2 93 i = w.2.2.2 93 i) (gs : ∀ i, i < h → GT n ow kd P (w2.2.2.2 93 (2500 * p + (bnM + i)))) : MEI Fv P PR w2 p n ow kd opM (bnM + h) bxM := by
  have m' := m
  obtain ⟨m1, m2, m3, m4, m5, ⟨x1, x2, x3, x4, x5, x6, x7, x8, x9, x10, x11⟩⟩ := m
  have hpz : hp w2 p = hp w p := by unfold hp; rw [f.2.2.2 88 (by decide)]
  have z140 : F w2 140 = -1 := by rw [FR.F f (by decide)]; exact m1.2.2.2.1
  exact MEI_upd m' (FR.mo f (by decide) (by decide) (by decide) (by decide)) z140 (fun q _ => FR.A f (by decide)) (fun q _ => FR.A f (by decide)) h94' (fun q _ => FR.A f (by decide)) (fun j _ => by rw [f.2.2.2 88 (by decide)]) (fun j _ => by rw [f.2.2.2 91 (by decide)]) (fun j hj => out j (by omega)) (fun j _ => by rw [f.2.2.2 107 (by decide)]) (by rw [FR.A f (by decide)]; exact m5) ⟨rfl, by rw [hpz]; exact x2, x3, x4, by rw [FR.A f (by decide)]; exact x5, ⟨h94, hl⟩, by rw [FR.A f (by decide)]; exact x7, fun j hj => by rw [f.2.2.2 91 (by decide)]; exact x8 j hj, fun j hj => by
    by_cases e : j < bnM
    · rw [out _ (by omega)]; exact x9 j e
    · have := gs (j - bnM) (by omega)
      rw [show bnM + (j - bnM) = j from by omega] at this; exact this, fun j hj => by rw [f.2.2.2 107 (by decide)]; exact x10 j hj, fun e => by omega⟩
def FOQ (Fv : Int64 → Int64 → Prop) (P : Int64 → Prop) (PR p n : Nat) (ow kd : Nat → Nat) (bxM fr2 bo b bn h : Nat) (u w : MS) : Prop := MEI Fv P PR w p n ow kd (bo + b) (bn + h) bxM ∧ FR [] [] [92, 94, 95, 96, 97, 99, 100, 101] [91, 93] u w ∧ OTF p u w ∧ A w 95 p = ((fr2 : Nat) : Int) ∧ (∀ i, A w 99 i = if i = 60 * p + (fr2 - 1) then ((bn : Nat) : Int) else A u 99 i) ∧ (∀ i, A w 100 i = if i = 60 * p + (fr2 - 1) then ((bo : Nat) : Int) else A u 100 i) ∧ ∀ i, A w 101 i = if i = 60 * p + (fr2 - 1) then ((h : Nat) : Int) else A u 101 i
theorem fo2 {v7 : Int64} {fr2 bo b bn h i6 : Nat} (h40 : h ≤ 40) (hbn : bn + h ≤ 2500) (hx4 : p < 24) (e6 : i6 = 60 * p + (fr2 - 1)) (hfr : 1 ≤ fr2 ∧ fr2 ≤ 60) (i : MEI Fv P PR x p n ow kd (bo + b) bn bxM) (f : FR [] [] [92, 94, 95, 96, 97, 99, 100, 101] [91, 93] u x) (o : OTF p u x) (h95 : A x 95 p = ((fr2 : Nat) : Int)) (h99 : ∀ i, A x 99 i = if i = i6 then ((bn : Nat) : Int) else A u 99 i) (h100 : ∀ i, A x 100 i = if i = i6 then ((bo : Nat) : Int) else A u 100 i) (h101 : ∀ i, A x 101 i = if i = i6 then ((h : Nat) : Int) else A u 101 i) (g7 : GT n ow kd P v7) (so7 : so v7 = 3) (hh : vn (hp x p (vn v7 + 1)) = h) : ∀ k j w M, j + k = h → k < M → FR [] [] [] [93] x w → (∀ i, ¬ (2500 * p + bn ≤ i ∧ i < 2500 * p + 2500) → w.2.2.2 93 i = x.2.2.2 93 i) → (∀ i, i < j → w.2.2.2 93 (2500 * p + (bn + i)) = hp x p (vn v7 + (2 + i))) → OK (fun y _ => FOQ Fv P PR p n ow kd bxM fr2 bo b bn h u y) ((gg_M_frameOf N M).2 w v7 (I bn) (I i6) (I j)) := by
  have ht : isH v7 := Or.inl so7
  have x3 : n ≤ 500 := i.2.2.2.2.2.2.2.1
  obtain ⟨bk, parts⟩ := HP_bk i.2.2.2.2.2.2.1 ht g7
  have bb : blk (hp x p) v7 = 2 + h := by unfold blk; rw [so7, hh]; rfl
  have pp : prt v7 = 2 := by unfold prt; rw [so7]; rfl
  have bl := bk.2.2.2.1
  have vt : va v7 = (vn v7 : Int) := by have := bk.1; unfold vn; omega
  intro k
  induction k with
  | zero =>
    intro j w M hj hM fw out cells
    obtain rfl : j = h := by omega
    obtain ⟨M, rfl⟩ : ∃ M', M = M' + 1 := ⟨M - 1, by omega⟩
    show OK _ (fb_M_frameOf_285 N (gg_M_frameOf N M) w v7 (I bn) (I i6) (I j))
    unfold fb_M_frameOf_285 fb_M_frameOf_359
    have w101 : A w 101 i6 = ((j : Nat) : Int) := by rw [FR.A fw (by decide), h101, if_pos rfl]
    have w133 : F w 133 = p := by rw [FR.F fw (by decide)]; exact i.2.2.1
    rw [inb_at (k := 101) (n := 1440) rfl (by omega) (by omega) (by decide), ck_t, I_tn (x := (i6 : Int)) (by omega) (by omega), Int.toNat_natCast, I_A' w101, decI (by omega) (by omega) (by omega) (by omega), decide_eq_true (by omega), br_tq, ck_t, I_F' w133]
    refine ok_ck.mpr ⟨inb_at (k := 94) (n := 24) rfl (by omega) (by omega) (by decide), ok_lt.mpr (ok_some.mpr ?_)⟩
    rw [I_tn (x := (p : Int)) (by omega) (by omega), Int.toNat_natCast, I_add, show (bn : Int) + (j : Int) = ((bn + j : Nat) : Int) from by omega, wa_e]
    have f2 : FR [] [] [94] [93] x (wa w 94 p ((bn + j : Nat) : Int)) := FR.wa (FR.mo fw (by decide) (by decide) (by decide) (by decide)) (by decide)
    have a94 : ∀ y, A (wa w 94 p ((bn + j : Nat) : Int)) 94 y = if y = p then ((bn + j : Nat) : Int) else A x 94 y := fun y => by rw [A_eq (by omega) (by omega), FR.A fw (by decide)]
    have j93 : (wa w 94 p ((bn + j : Nat) : Int)).2.2.2 93 = w.2.2.2 93 := rfl
    generalize wa w 94 p ((bn + j : Nat) : Int) = w2 at *
    refine ⟨nm_write i f2 (by rw [a94, if_pos rfl]) (fun y hy => by rw [a94, if_neg hy]) hbn (fun i hi => by rw [j93]; exact out i hi) (fun i hi => by rw [j93, cells i hi]; exact parts _ (by omega) (by omega)), FR.tr f (FR.mo f2 (by decide) (by decide) (by decide) (by decide)), OTF.tr o (OTF_at (k0 := 94) f2 (i0 := p) (fun y hy => by rw [a94, if_neg hy]) (Or.inl ⟨by decide, rfl⟩)), by rw [FR.A f2 (by decide)]; exact h95, fun i => by rw [FR.A f2 (by decide), ← e6]; exact h99 i, fun i => by rw [FR.A f2 (by decide), ← e6]; exact h100 i, fun i => by rw [FR.A f2 (by decide), ← e6]; exact h101 i⟩
  | succ k ih =>
    intro j w M hj hM fw out cells
    obtain ⟨M, rfl⟩ : ∃ M', M = M' + 1 := ⟨M - 1, by omega⟩
    show OK _ (fb_M_frameOf_285 N (gg_M_frameOf N M) w v7 (I bn) (I i6) (I j))
    unfold fb_M_frameOf_285
    have w101 : A w 101 i6 = ((h : Nat) : Int) := by rw [FR.A fw (by decide), h101, if_pos rfl]
    have w133 : F w 133 = p := by rw [FR.F fw (by decide)]; exact i.2.2.1
    have hpw : hp w p = hp x p := by unfold hp; rw [fw.2.2.2 88 (by decide)]
    rw [inb_at (k := 101) (n := 1440) rfl (by omega) (by omega) (by decide), ck_t, I_tn (x := (i6 : Int)) (by omega) (by omega), Int.toNat_natCast, I_A' w101, decI (by omega) (by omega) (by omega) (by omega), decide_eq_false (by omega), br_fq, valueOf_e, bnd_so, I_F' w133, vt, show (2 : Int32) = I 2 from rfl, I_add, I_add, show (vn v7 : Int) + 2 + (j : Int) = ((vn v7 + (2 + j) : Nat) : Int) from by omega, cell_e (by omega) (by omega), bnd_so, show (2500 : Int32) = I 2500 from rfl, I_mul, I_add, I_add]
    refine ok_ck.mpr ⟨inb_at (k := 93) (n := 60000) rfl (by omega) (by omega) (by decide), ok_lt.mpr ?_⟩
    rw [I_tn (by omega) (by omega), show ((p : Int) * 2500 + (bn : Int) + (j : Int)).toNat = 2500 * p + (bn + j) from by omega, wj_e, lit1q, I_add, show (j : Int) + 1 = ((j + 1 : Nat) : Int) from by omega, hpw]
    refine ih (j + 1) _ M (by omega) (by omega) (FR.wj fw (by decide)) (fun i hi => by rw [J_wj, if_pos rfl, if_neg (by omega)]; exact out i hi) (fun i hi => ?_)
    rw [J_wj, if_pos rfl]
    by_cases e2 : i = j
    · subst e2; rw [if_pos rfl]
    · rw [if_neg (by omega)]; exact cells i (by omega)
end
