section
variable {Fv : Int64 → Int64 → Prop} {P P2 : Int64 → Prop} {u v w w2 x y : MS} {PR PR2 N p n n2 opM bnM bxM bx2 ND fr k tp mu CN PN SN UN FN rq q m h mm AN z j : Nat} {ow kd ow2 kd2 ro rn rh cb pc ct pM pE : Nat → Nat} {T : TY} {C : CY}
set_option maxRecDepth 100000 in
theorem fo1 {v7 : Int64} {v1 fl : Int} {fr2 bo b bn h o12 : Nat} (hb6 : b ≤ 6) (hv1 : -1 ≤ v1 ∧ v1 < 1000) (h40 : h ≤ 40) (hbn : bn + h ≤ 2500) (hbn2 : bn ≤ bnM) (ho12 : o12 + b = opM) (hbo : bo ≤ o12) (hfr : 1 ≤ fr2 ∧ fr2 ≤ 60) (f0 : FR [] [] [95] [] u x) (o0 : OTF p u x) (h95 : A x 95 p = ((fr2 : Nat) : Int)) (i0 : MEI Fv P PR x p n ow kd opM bnM bxM) (hfl : (fl = 0 ∧ h = 0) ∨ (fl = 1 ∧ GT n ow kd P v7 ∧ so v7 = 3 ∧ vn (hp x p (vn v7 + 1)) = h)) (hN : 60000 ≤ N) : ∀ k j w M, j + k = b → k + h + 3 ≤ M → FR [] [] [] [91] x w → MEI Fv P PR w p n ow kd opM bnM bxM → OK (fun y _ => FOQ Fv P PR p n ow kd bxM fr2 bo b bn h u y) ((gg_M_frameOf N M).1 w (I v1) (I b) (I fl) v7 (I ((46000 * p : Nat) : Int)) (I bo) (I bn) (I o12) (I j)) := by
  have x4 := MEI_p i0
  have om : opM ≤ 46000 := i0.2.2.2.2.2.2.2.2.2.1.2
  have x3 : n ≤ 500 := i0.2.2.2.2.2.2.2.1
  intro k
  induction k with
  | zero =>
    intro j w M hj hM fw iw
    obtain rfl : j = b := by omega
    obtain ⟨M, rfl⟩ : ∃ M', M = M' + 1 := ⟨M - 1, by omega⟩
    show OK _ (fb_M_frameOf_144 N (gg_M_frameOf N M) w (I v1) (I j) (I fl) v7 (I ((46000 * p : Nat) : Int)) (I bo) (I bn) (I o12) (I j))
    unfold fb_M_frameOf_144
    rw [decI (by omega) (by omega) (by omega) (by omega), decide_eq_true (by omega), br_tq, I_F' iw.2.2.1, inb_at (k := 92) (n := 24) rfl (by omega) (by omega) (by decide), ck_t, lt_e, I_tn (x := (p : Int)) (by omega) (by omega), Int.toNat_natCast, I_add, show (bo : Int) + (j : Int) = ((bo + j : Nat) : Int) from by omega, wa_e (k := 92)]
    have i1 := ops_less iw (k := bo + j) (by omega)
    have f1 : FR [] [] [92] [91] x (wa w 92 p ((bo + j : Nat) : Int)) := FR.wa (FR.mo fw (by decide) (by decide) (by decide) (by decide)) (by decide)
    have o1 : OTF p x (wa w 92 p ((bo + j : Nat) : Int)) := OTF.tr (OTF_fr fw (by decide)) (OTF_at (FR.wa FR.rf (by decide) : FR [] [] [92] [] w _) (i0 := p) (fun y hy => by rw [A_eq (by omega) (by omega), if_neg hy]) (Or.inl ⟨by decide, rfl⟩))
    generalize wa w 92 p ((bo + j : Nat) : Int) = w1 at *
    rw [frame0_x (fr := fr2) i1.2.2.1 x4 (by rw [FR.A f1 (by decide)]; exact h95) hfr, bnd_so]
    obtain ⟨i6, e6⟩ : ∃ i6, i6 = 60 * p + (fr2 - 1) := ⟨_, rfl⟩
    rw [← e6]
    have l6 : i6 < 1440 := by omega
    rw [inb_at (k := 96) (n := 1440) rfl (by omega) (by omega) (by decide), ck_t, lt_e, I_tn (x := (i6 : Int)) (by omega) (by omega), Int.toNat_natCast, wa_e (k := 96), inb_at (k := 97) (n := 1440) rfl (by omega) (by omega) (by decide), ck_t, lt_e, litm1q, wa_e (k := 97), inb_at (k := 100) (n := 1440) rfl (by omega) (by omega) (by decide), ck_t, lt_e, wa_e (k := 100), inb_at (k := 99) (n := 1440) rfl (by omega) (by omega) (by decide), ck_t, lt_e, wa_e (k := 99)]
    have s96 : OTF p w1 (wa w1 96 i6 v1) := by
      have fz : FR [] [] [96] [] w1 (wa w1 96 i6 v1) := FR.wa FR.rf (by decide)
      exact ⟨fun y _ => ⟨FR.A fz (by decide), FR.A fz (by decide), FR.A fz (by decide), FR.A fz (by decide)⟩, fun i _ => ⟨FR.A fz (by decide), FR.A fz (by decide), FR.A fz (by decide), FR.A fz (by decide)⟩, fun i _ => ⟨FR.A fz (by decide), FR.A fz (by decide), FR.A fz (by decide), FR.A fz (by decide)⟩, fun i => Or.inl (FR.A fz (by decide)), fun i hi => by rw [A_eq (by omega) (by omega), if_neg (by omega)], fun y hy => ⟨FR.A fz (by decide), FR.A fz (by decide), rfl⟩⟩
    have f4 : FR [] [] [96, 97, 99, 100] [] w1 (wa (wa (wa (wa w1 96 i6 v1) 97 i6 (-1)) 100 i6 (bo : Int)) 99 i6 (bn : Int)) := FR.wa (FR.wa (FR.wa (FR.wa FR.rf (by decide)) (by decide)) (by decide)) (by decide)
    have o4 : OTF p w1 (wa (wa (wa (wa w1 96 i6 v1) 97 i6 (-1)) 100 i6 (bo : Int)) 99 i6 (bn : Int)) := OTF.tr s96 (OTF.tr (OTF_97 (by omega)) (OTF.tr (OTF_at (FR.wa FR.rf (by decide) : FR [] [] [100] [] _ _) (i0 := i6) (fun y hy => by rw [A_eq (by omega) (by omega), if_neg hy]) (Or.inr (Or.inl ⟨by decide, by omega, by omega⟩))) (OTF_at (FR.wa FR.rf (by decide) : FR [] [] [99] [] _ _) (i0 := i6) (fun y hy => by rw [A_eq (by omega) (by omega), if_neg hy]) (Or.inr (Or.inl ⟨by decide, by omega, by omega⟩)))))
    have a99 : ∀ i, A (wa (wa (wa (wa w1 96 i6 v1) 97 i6 (-1)) 100 i6 (bo : Int)) 99 i6 (bn : Int)) 99 i = if i = i6 then (bn : Int) else A w1 99 i := fun i => by rw [A_eq (by omega) (by omega), A_ne (by decide), A_ne (by decide), A_ne (by decide)]
    have a100 : ∀ i, A (wa (wa (wa (wa w1 96 i6 v1) 97 i6 (-1)) 100 i6 (bo : Int)) 99 i6 (bn : Int)) 100 i = if i = i6 then (bo : Int) else A w1 100 i := fun i => by rw [A_ne (by decide), A_eq (by omega) (by omega), A_ne (by decide), A_ne (by decide)]
    generalize wa (wa (wa (wa w1 96 i6 v1) 97 i6 (-1)) 100 i6 (bo : Int)) 99 i6 (bn : Int) = w4 at *
    have i4 := MEI_fr i1 f4 (by decide) (by decide) (by decide) (by decide) (by decide) (by decide) (by decide) (by decide) (by decide) (by decide) (by decide) (by decide) (by decide) (by decide) (by decide) (by decide) (by decide) (by decide)
    rw [I_F' i4.2.2.1, inb_at (k := 94) (n := 24) rfl (by omega) (by omega) (by decide), ck_t, lt_e, I_tn (x := (p : Int)) (by omega) (by omega), Int.toNat_natCast, wa_e (k := 94), inb_at (k := 101) (n := 1440) rfl (by omega) (by omega) (by decide), ck_t, lt_e, show (0 : Int32) = I 0 from rfl, wa_e (k := 101)]
    have i5 := names_less i4 (k := bn) hbn2
    have f5 : FR [] [] [94, 101] [] w4 (wa (wa w4 94 p (bn : Int)) 101 i6 0) := FR.wa (FR.wa FR.rf (by decide)) (by decide)
    have o5 : OTF p w4 (wa (wa w4 94 p (bn : Int)) 101 i6 0) := OTF.tr (OTF_at (FR.wa FR.rf (by decide) : FR [] [] [94] [] _ _) (i0 := p) (fun y hy => by rw [A_eq (by omega) (by omega), if_neg hy]) (Or.inl ⟨by decide, rfl⟩)) (OTF_at (FR.wa FR.rf (by decide) : FR [] [] [101] [] _ _) (i0 := i6) (fun y hy => by rw [A_eq (by omega) (by omega), if_neg hy]) (Or.inr (Or.inl ⟨by decide, by omega, by omega⟩)))
    have a101 : ∀ i, A (wa (wa w4 94 p (bn : Int)) 101 i6 0) 101 i = if i = i6 then 0 else A w4 101 i := fun i => by rw [A_eq (by omega) (by omega), A_ne (by decide)]
    have i6' : MEI Fv P PR (wa (wa w4 94 p (bn : Int)) 101 i6 0) p n ow kd (bo + j) bn bxM := MEI_fr i5 (FR.wa FR.rf (by decide) : FR [] [] [101] [] _ (wa (wa w4 94 p (bn : Int)) 101 i6 0)) (by decide) (by decide) (by decide) (by decide) (by decide) (by decide) (by decide) (by decide) (by decide) (by decide) (by decide) (by decide) (by decide) (by decide) (by decide) (by decide) (by decide) (by decide)
    generalize wa (wa w4 94 p (bn : Int)) 101 i6 0 = w6 at *
    have f16 : FR [] [] [94, 96, 97, 99, 100, 101] [] w1 w6 := FR.tr (FR.mo f4 (by decide) (by decide) (by decide) (by decide)) (FR.mo f5 (by decide) (by decide) (by decide) (by decide))
    have fx6 : FR [] [] [92, 94, 96, 97, 99, 100, 101] [91] x w6 := FR.tr (FR.mo f1 (by decide) (by decide) (by decide) (by decide)) (FR.mo f16 (by decide) (by decide) (by decide) (by decide))
    have fu6 : FR [] [] [92, 94, 95, 96, 97, 99, 100, 101] [91, 93] u w6 := FR.tr (FR.mo f0 (by decide) (by decide) (by decide) (by decide)) (FR.mo fx6 (by decide) (by decide) (by decide) (by decide))
    have ou6 : OTF p u w6 := OTF.tr o0 (OTF.tr o1 (OTF.tr o4 o5))
    have h95' : A w6 95 p = ((fr2 : Nat) : Int) := by rw [FR.A fx6 (by decide)]; exact h95
    have b99 : ∀ i, A w6 99 i = if i = i6 then ((bn : Nat) : Int) else A u 99 i := fun i => by rw [FR.A f5 (by decide), a99, FR.A f1 (by decide), FR.A f0 (by decide)]
    have b100 : ∀ i, A w6 100 i = if i = i6 then ((bo : Nat) : Int) else A u 100 i := fun i => by rw [FR.A f5 (by decide), a100, FR.A f1 (by decide), FR.A f0 (by decide)]
    have b101 : ∀ i, A w6 101 i = if i = i6 then 0 else A u 101 i := fun i => by rw [a101, FR.A f4 (by decide), FR.A f1 (by decide), FR.A f0 (by decide)]
    have hp6 : hp w6 p = hp x p := by unfold hp; rw [fx6.2.2.2 88 (by decide)]
    rcases hfl with ⟨q1, q2⟩ | ⟨q1, q2, q3, q4⟩
    · subst q1 q2
      refine ok_br.mpr ⟨fun _ => ?_, fun z => absurd rfl (of_decide_eq_false z)⟩
      unfold fb_M_frameOf_359
      exact ok_some.mpr ⟨i6', fu6, ou6, h95', fun i => by rw [b99, e6], fun i => by rw [b100, e6], fun i => by rw [b101, e6]; rfl⟩
    · subst q1
      refine ok_br.mpr ⟨fun z => absurd (of_decide_eq_true z) (by decide), fun _ => ?_⟩
      have ht : isH v7 := Or.inl q3
      obtain ⟨bk, parts⟩ := HP_bk i6'.2.2.2.2.2.2.1 ht q2
      have vt : va v7 = (vn v7 : Int) := by have := bk.1; unfold vn; omega
      have b2 : 2 ≤ blk (hp w6 p) v7 := blk_2 q3
      have bl := bk.2.2.2.1
      have hv' : va (hp w6 p (vn v7 + 1)) = (h : Int) := by
        have := (bk.2.2.1 q3).1
        rw [← q4, ← hp6]; unfold vn at *; omega
      have ci : (hp w6 p (vn v7 + 1)).toInt32 = I (h : Int) := by
        have : (hp w6 p (vn v7 + 1)).toInt32.toInt = (h : Int) := hv'
        rw [I_of (hp w6 p (vn v7 + 1)).toInt32, this]
      rw [valueOf_e, bnd_so, I_F' i6'.2.2.1, vt, lit1q, I_add, show (vn v7 : Int) + 1 = ((vn v7 + 1 : Nat) : Int) from by omega, cell_e (by omega) (by omega), bnd_so, ci]
      refine ok_ck.mpr ⟨rfl, ok_lt.mpr ?_⟩
      rw [wa_e (k := 101), show I 0 = I ((0 : Nat) : Int) from rfl]
      have f7 : FR [] [] [101] [] w6 (wa w6 101 i6 (h : Int)) := FR.wa FR.rf (by decide)
      have o7 : OTF p w6 (wa w6 101 i6 (h : Int)) := OTF_at f7 (i0 := i6) (fun y hy => by rw [A_eq (by omega) (by omega), if_neg hy]) (Or.inr (Or.inl ⟨by decide, by omega, by omega⟩))
      have c101 : ∀ i, A (wa w6 101 i6 (h : Int)) 101 i = if i = i6 then ((h : Nat) : Int) else A u 101 i := fun i => by
        rw [A_eq (by omega) (by omega)]
        by_cases e : i = i6
        · rw [if_pos e, if_pos e]
        · rw [if_neg e, if_neg e, b101, if_neg e]
      have hp7 : hp (wa w6 101 i6 (h : Int)) p = hp w6 p := rfl
      generalize wa w6 101 i6 (h : Int) = w7 at *
      have i7 := MEI_fr i6' f7 (by decide) (by decide) (by decide) (by decide) (by decide) (by decide) (by decide) (by decide) (by decide) (by decide) (by decide) (by decide) (by decide) (by decide) (by decide) (by decide) (by decide) (by decide)
      exact fo2 (N := N) h40 hbn x4 e6 hfr i7 (FR.tr fu6 (FR.mo f7 (by decide) (by decide) (by decide) (by decide))) (OTF.tr ou6 o7) (by rw [FR.A f7 (by decide)]; exact h95') (fun i => by rw [FR.A f7 (by decide)]; exact b99 i) (fun i => by rw [FR.A f7 (by decide)]; exact b100 i) c101 q2 q3 (by rw [hp7, hp6]; exact q4) h 0 w7 M (by omega) (by omega) FR.rf (fun _ _ => rfl) (fun i hi => absurd hi (Nat.not_lt_zero i))
  | succ k ih =>
    intro j w M hj hM fw iw
    obtain ⟨M, rfl⟩ : ∃ M', M = M' + 1 := ⟨M - 1, by omega⟩
    show OK _ (fb_M_frameOf_144 N (gg_M_frameOf N M) w (I v1) (I b) (I fl) v7 (I ((46000 * p : Nat) : Int)) (I bo) (I bn) (I o12) (I j))
    unfold fb_M_frameOf_144
    rw [decI (by omega) (by omega) (by omega) (by omega), decide_eq_false (by omega), br_fq, I_add, I_add, I_add, I_add]
    refine ok_ck.mpr ⟨inb_at (k := 91) (n := 1104000) rfl (by omega) (by omega) (by decide), ok_ck.mpr ⟨inb_at (k := 91) (n := 1104000) rfl (by omega) (by omega) (by decide), ok_lt.mpr ?_⟩⟩
    rw [I_tn (by omega) (by omega), I_tn (by omega) (by omega), show (((46000 * p : Nat) : Int) + (bo : Int) + (j : Int)).toNat = 46000 * p + (bo + j) from by omega, show (((46000 * p : Nat) : Int) + (o12 : Int) + (j : Int)).toNat = 46000 * p + (o12 + j) from by omega, wj_e, lit1q, I_add, show (j : Int) + 1 = ((j + 1 : Nat) : Int) from by omega]
    exact ih (j + 1) _ M (by omega) (by omega) (FR.wj fw (by decide)) (op_write iw (by omega) (iw.2.2.2.2.2.2.2.2.2.2.2.2.1 _ (by omega)))
end
