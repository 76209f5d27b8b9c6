section
variable {Fv : Int64 → Int64 → Prop} {P P2 : Int64 → Prop} {u v w w2 x y b : MS} {PR PR2 N p n n2 opM bnM bxM bx2 ND fr k tp mu CN PN SN UN FN rq q m h mm AN z j : Nat} {ow kd ow2 kd2 ro rn rh cb pc ct pM pE : Nat → Nat} {T : TY} {C : CY}
def NEWR (w : MS) (UN FN z h : Nat) : Prop := A w 109 z = 5 ∧ A w 95 z = 1 ∧ A w 92 z = 0 ∧ A w 106 z = 0 ∧ A w 99 (60 * z) = 0 ∧ A w 100 (60 * z) = 0 ∧ h ≤ 40 ∧ A w 101 (60 * z) = h ∧ ((A w 96 (60 * z) = -1 ∧ ∃ x : Nat, x < UN ∧ A w 170 z = x ∧ A w 54 x = h ∧ ∃ c : Nat, A w 53 x = c ∧ A w 41 c = 0) ∨ (h = 0 ∧ ∃ f : Nat, f < FN ∧ A w 96 (60 * z) = f ∧ A w 48 f = 0))
theorem NEWR_fr {is ls as js : List Nat} (r : NEWR u UN FN z h) (f : FR is ls as js u w) (ha : ∀ k, k ∈ [41, 48, 53, 54, 92, 95, 96, 99, 100, 101, 106, 109, 170] → k ∉ as) : NEWR w UN FN z h := by
  obtain ⟨r1, r2, r3, r4, r5, r6, r7, r8, r9⟩ := r
  refine ⟨by rw [FR.A f (ha _ (by decide))]; exact r1, by rw [FR.A f (ha _ (by decide))]; exact r2, by rw [FR.A f (ha _ (by decide))]; exact r3, by rw [FR.A f (ha _ (by decide))]; exact r4, by rw [FR.A f (ha _ (by decide))]; exact r5, by rw [FR.A f (ha _ (by decide))]; exact r6, r7, by rw [FR.A f (ha _ (by decide))]; exact r8, ?_⟩
  rw [FR.A f (ha _ (by decide)), FR.A f (ha _ (by decide))]
  rcases r9 with ⟨q1, x, q2, q3, q4, c, q5, q6⟩ | ⟨q1, g, q2, q3, q4⟩
  · exact Or.inl ⟨q1, x, q2, q3, by rw [FR.A f (ha _ (by decide))]; exact q4, c, by rw [FR.A f (ha _ (by decide))]; exact q5, by rw [FR.A f (ha _ (by decide))]; exact q6⟩
  · exact Or.inr ⟨q1, g, q2, q3, by rw [FR.A f (ha _ (by decide))]; exact q4⟩
theorem NEWR_h (r : NEWR w UN FN z h) (h94 : A w 94 z = h) : PSX w T ND UN FN z := by
  obtain ⟨r1, r2, r3, r4, r5, r6, r7, r8, r9⟩ := r
  exact Or.inr (Or.inr ⟨r1, r2, r3, r4, r5, r6, h, r7, h94, r8, r9⟩)
theorem sp234 {t9 : Int64} {s0 : Nat} (e : ERX Fv (PQ AN PR) PR T C ND CN p u fr ro rn rh cb pc ct q n ow kd (ro (fr - 1) + tH T q) (rn (fr - 1) + rh (fr - 1) + tM T q) bxM mu) (hAN : 22 ≤ AN) (hw : WLD u T ND UN FN PR p) (hT : ∀ q, q < ND → tK T q ≤ 26) (hH : tH T q ≤ 760) (hG : tG T q = 0) (hq : tB T q + 1 ≤ tH T q) (hm : m < ND) (hx : NX T q m (tH T q) (tM T q)) (h98 : A u 98 (60 * p + (fr - 1)) = ((m : Nat) : Int)) (hpr : PR < 24) (s : SPR PR u b) (d : DW Fv (PQ AN (PR + 1)) (PR + 1) b) (h89 : A b 89 PR = ((s0 : Nat) : Int)) (cx : CX b PR (hp b PR) s0 ow2 kd2 Fv (PQ AN (PR + 1)) 0 0 0) (nr : NEWR b UN FN PR h) (g9 : GT s0 ow2 kd2 (PQ AN (PR + 1)) t9) (so9 : so t9 = 3) (hh : vn (hp b PR (vn t9 + 1)) = h) : ∀ k j w M, j + k = h → k < M → FR [] [] [] [93] b w → (∀ i, ¬ (2500 * PR ≤ i ∧ i < 2500 * PR + 2500) → w.2.2.2 93 i = b.2.2.2 93 i) → (∀ i, i < j → w.2.2.2 93 (2500 * PR + i) = hp b PR (vn t9 + (2 + i))) → OK (fun v _ => RSW Fv AN T C ND CN UN FN p mu u v) (gg_M_spawnRun N M w (I PR) t9 (I h) (I j)) := by
  obtain ⟨x1, x2, x3, x4, x5, x6, x7, x8, x9, x10, x11⟩ := id cx
  have h40 : h ≤ 40 := nr.2.2.2.2.2.2.1
  have n5 : A b 109 PR = 5 := nr.1
  have ht : isH t9 := Or.inl so9
  obtain ⟨bk, parts⟩ := HP_bk x2 ht g9
  have bb : blk (hp b PR) t9 = 2 + h := by unfold blk; rw [so9, hh]; rfl
  have pp : prt t9 = 2 := by unfold prt; rw [so9]; rfl
  have bn := bk.2.2.2.1
  have vt : va t9 = (vn t9 : Int) := by have := bk.1; unfold vn; omega
  intro k
  induction k with
  | zero =>
    intro j w M hj hM f out cells
    obtain rfl : j = h := by omega
    obtain ⟨M, rfl⟩ : ∃ M', M = M' + 1 := ⟨M - 1, by omega⟩
    show OK _ (fb_M_spawnRun_234 N (gg_M_spawnRun N M) w (I PR) t9 (I j) (I j))
    unfold fb_M_spawnRun_234
    rw [decI (by omega) (by omega) (by omega) (by omega), decide_eq_true (by omega), br_tq]
    refine ok_ck.mpr ⟨inb_at (k := 94) (n := 24) rfl (by omega) (by omega) (by decide), ok_lt.mpr ?_⟩
    rw [I_tn (x := (PR : Int)) (by omega) (by omega), Int.toNat_natCast, wa_e]
    have f2 : FR [] [] [94] [93] b (wa w 94 PR (j : Int)) := FR.wa (FR.mo f (by decide) (by decide) (by decide) (by decide)) (by decide)
    have a94 : ∀ y, A (wa w 94 PR (j : Int)) 94 y = if y = PR then (j : Int) else A b 94 y := fun y => by rw [A_eq (by omega) (by omega), FR.A f (by decide)]
    have j93 : (wa w 94 PR (j : Int)).2.2.2 93 = w.2.2.2 93 := rfl
    generalize wa w 94 PR (j : Int) = w2 at *
    have hp2 : hp w2 PR = hp b PR := by unfold hp; rw [f2.2.2.2 88 (by decide)]
    have o2 : OTF PR b w2 := OTF_at (k0 := 94) (i0 := PR) f2 (fun y hy => by rw [a94, if_neg hy]) (Or.inl ⟨by decide, rfl⟩)
    have d2 : DW Fv (PQ AN (PR + 1)) (PR + 1) w2 := DW_q d (by omega) (by omega) ⟨s0, ow2, kd2, 0, j, 0, by rw [FR.A f2 (by decide)]; exact h89, rfl, by rw [hp2]; exact x2, x3, x4, by rw [FR.A f2 (by decide)]; exact x5, ⟨by rw [a94, if_pos rfl], by omega⟩, by rw [FR.A f2 (by decide)]; exact x7, fun i hi => absurd hi (Nat.not_lt_zero i), fun i hi => by rw [j93, cells i hi]; exact parts _ (by omega) (by omega), fun i hi => absurd hi (Nat.not_lt_zero i), fun z => by rw [FR.F f2 (by decide), d.2.2.2.1] at z; omega⟩ (FR.mo f2 (by decide) (by decide) (by decide) (by decide)) (by rw [FR.F f2 (by decide)]; exact d.2.2.2.1) (fun y _ => FR.A f2 (by decide)) (fun y _ => FR.A f2 (by decide)) (fun y hy => by rw [a94, if_neg hy]) (fun y _ => FR.A f2 (by decide)) (fun i _ => by rw [f2.2.2.2 88 (by decide)]) (fun i _ => by rw [f2.2.2.2 91 (by decide)]) (fun i hi => by rw [j93]; exact out i hi) (fun i _ => by rw [f2.2.2.2 107 (by decide)])
    exact sp286 (N := N) e hAN hw hT hH hG hq hm hx h98 hpr (SPR.tr s f2 o2 (by decide) (by decide) (by decide) (by decide) (by decide) (by decide) (fun y _ => FR.A f2 (by decide))) d2 (NEWR_h (NEWR_fr nr f2 (by decide)) (by rw [a94, if_pos rfl]))
  | succ k ih =>
    intro j w M hj hM f out cells
    obtain ⟨M, rfl⟩ : ∃ M', M = M' + 1 := ⟨M - 1, by omega⟩
    show OK _ (fb_M_spawnRun_234 N (gg_M_spawnRun N M) w (I PR) t9 (I h) (I j))
    unfold fb_M_spawnRun_234
    have hpw : hp w PR = hp b PR := by unfold hp; rw [f.2.2.2 88 (by decide)]
    rw [decI (by omega) (by omega) (by omega) (by omega), decide_eq_false (by omega), br_fq, valueOf_e, bnd_so, vt, show (2 : Int32) = I 2 from rfl, I_add, I_add, show (vn t9 : Int) + 2 + (j : Int) = ((vn t9 + (2 + j) : Nat) : Int) from by omega, cell_e (by omega) (by omega), bnd_so, show (2500 : Int32) = I 2500 from rfl, I_mul, I_add]
    refine ok_ck.mpr ⟨inb_at (k := 93) (n := 60000) rfl (by omega) (by omega) (by decide), ok_lt.mpr ?_⟩
    rw [I_tn (by omega) (by omega), show ((PR : Int) * 2500 + (j : Int)).toNat = 2500 * PR + j from by omega, wj_e, lit1q, I_add, show (j : Int) + 1 = ((j + 1 : Nat) : Int) from by omega, hpw]
    refine ih (j + 1) _ M (by omega) (by omega) (FR.wj f (by decide)) (fun i hi => by rw [J_wj, if_pos rfl, if_neg (by omega)]; exact out i hi) (fun i hi => ?_)
    rw [J_wj, if_pos rfl]
    by_cases e2 : i = j
    · subst e2; rw [if_pos rfl]
    · rw [if_neg (by omega)]; exact cells i (by omega)
set_option maxRecDepth 100000 in
theorem sp150 {t v3 : Int64} (e : ERX Fv (PQ AN PR) PR T C ND CN p u fr ro rn rh cb pc ct q n ow kd (ro (fr - 1) + tH T q) (rn (fr - 1) + rh (fr - 1) + tM T q) bxM mu) (hAN : 22 ≤ AN) (hw : WLD u T ND UN FN PR p) (hT : ∀ q, q < ND → tK T q ≤ 26) (hH : tH T q ≤ 760) (hG : tG T q = 0) (hq : tB T q + 1 ≤ tH T q) (hm : m < ND) (hx : NX T q m (tH T q) (tM T q)) (h98 : A u 98 (60 * p + (fr - 1)) = ((m : Nat) : Int)) (hpr : PR < 24) (s : SPR PR u b) (d : DW Fv (PQ AN (PR + 1)) (PR + 1) b) (fb : FR [118] [] [89, 90, 92, 94, 95, 96, 97, 98, 99, 100, 101, 106, 108, 109, 110, 112, 113, 114, 115, 117, 132, 170] [111] u b) (b89 : A b 89 PR = 0) (b94 : A b 94 PR = 0) (b92 : A b 92 PR = 0) (b108 : A b 108 PR = 0) (b109 : A b 109 PR = 5) (gt : GT n ow kd (PQ AN PR) t) (so3 : so t = 3) (hv : vn (hp u p (vn t + 1)) = h) (h40 : h ≤ 40) (nr : NEWR b UN FN PR 0 ∧ v3.toInt < 0 ∨ 0 ≤ v3.toInt ∧ ∀ w, SPR PR u w → FR [] [] [89, 101, 142] [88, 141] b w → A w 101 (60 * PR) = h → NEWR w UN FN PR h) (hN : 60000 ≤ N) : OK (fun v _ => RSW Fv AN T C ND CN UN FN p mu u v) (fb_M_spawnRun_150 N (gg_M_spawnRun N N) b t v3 (I PR) (I PR * 60)) := by
  have i := e.1
  have x4 := MEI_p i
  have hg := i.2.2.2.2.2.2.1
  have n500 : n ≤ 500 := i.2.2.2.2.2.2.2.1
  have pp := i.2.1
  have ht : isH t := Or.inl so3
  obtain ⟨f0, sz, z⟩ := HP_sz hg gt
  have hpb : hp b p = hp u p := by unfold hp; rw [fb.2.2.2 88 (by decide)]
  have b133 : F b 133 = p := by rw [FR.F fb (by decide)]; exact i.2.2.1
  have nal : A b 109 PR ≠ 3 := by omega
  unfold fb_M_spawnRun_150
  rw [I_F' b133]
  refine ok_bnd.mpr (ok_mono (copySize_ok (N := N) (Fv := Fv) (P := PQ AN PR) (n := n) (ow := ow) (kd := kd) (f := f0) (s := sz) (by rw [hpb]; exact hg) n500 (by omega) (by rw [hpb]; exact z) (by omega)) (fun v r hv' => ?_))
  obtain ⟨v1, v2⟩ := hv'
  have v133 : F v 133 = p := by rw [FR.F v1 (by decide)]; exact b133
  have dv : DW Fv (PQ AN (PR + 1)) (PR + 1) v := DW_fr d v1 (by decide) (by decide) (by decide) (by decide) (by decide) (by decide) (by decide) (by decide) (by decide) (by decide) (by decide) (by decide) (by decide) (by decide) (by decide) (by decide) (by decide)
  have sv : SPR PR u v := SPR.tr s v1 (OTF_fr v1 (by decide)) (by decide) (by decide) (by decide) (by decide) (by decide) (by decide) (fun y _ => FR.A v1 (by decide))
  rw [v2, lit500, decI (by split <;> omega) (by split <;> omega) (by omega) (by omega)]
  refine ok_br.mpr ⟨fun zs => ?_, fun zs => ?_⟩
  · have s500 : sz ≤ 500 := by
      have := of_decide_eq_true zs
      by_cases q5 : sz ≤ 500
      · exact q5
      · rw [if_neg q5] at this; omega
    rw [I_F' v133]
    have hpv : hp v p = hp u p := by rw [← hpb]; unfold hp; rw [v1.2.2.2 88 (by decide)]
    refine ok_bnd.mpr (ok_mono (copy_ok (N := N) (fr := p) (to := PR) (n0 := 0) (s := sz) (Fv := Fv) (P := PQ AN PR) (by omega) (by omega) n500 (by omega) (fun e => by omega) (by rw [hpv]; exact hg) (by rw [hpv]; exact z) (by rw [FR.A v1 (by decide), b89]; rfl) (by omega)) (fun w9 r9 hc => ?_))
    obtain ⟨c1, c2, c3, cc, st, src, oo, c4, c5⟩ := hc
    rw [hpv] at c4
    obtain ⟨ow2, kd2, g1, g2, g3, g4, g5⟩ := CPI_end (hD := hp v PR) hg (HP_none (Fv := Fv) (P := PQ AN PR) (h := hp v PR)) c4 (fun z hz => absurd hz (Nat.not_lt_zero z))
    have sz9 := g4 f0 r9 t sz c5 z
    have gt9 := SZ_gt sz9
    have hP := PQ_mo (AN := AN) (PR := PR) (PR2 := PR + 1) (by omega)
    obtain ⟨so9, cell1⟩ : so r9 = 3 ∧ hp w9 PR (vn r9 + 1) = hp u p (vn t + 1) := by
      rcases c5 with ⟨c5, -⟩ | ⟨-, e2, e3, e4, e5⟩
      · exact absurd ht c5
      · refine ⟨by omega, ?_⟩
        obtain ⟨q1, q2, q3, q4, q5, q6⟩ := c4.2.2.1 _ e4
        rw [e5] at q2 q6
        have bp : 2 ≤ blk (hp u p) t := blk_2 so3
        have pt : prt t = 2 := by unfold prt; rw [so3]; rfl
        exact (q6 1 (by omega) (fun y => by omega)).1 (by omega)
    have cx9 : CX w9 PR (hp w9 PR) (0 + sz) ow2 kd2 Fv (PQ AN (PR + 1)) 0 0 0 := ⟨rfl, HP_mo hP g1, by omega, hpr, ⟨by rw [FR.A c1 (by decide), FR.A v1 (by decide), b92]; rfl, by omega⟩, ⟨by rw [FR.A c1 (by decide), FR.A v1 (by decide), b94]; rfl, by omega⟩, ⟨by rw [FR.A c1 (by decide), FR.A v1 (by decide), b108]; rfl, by omega⟩, fun i hi => absurd hi (Nat.not_lt_zero i), fun i hi => absurd hi (Nat.not_lt_zero i), fun i hi => absurd hi (Nat.not_lt_zero i), fun z => by rw [FR.F c1 (by decide), dv.2.2.2.1] at z; omega⟩
    have h89 : A w9 89 PR = ((0 + sz : Nat) : Int) := by rw [c2, if_pos rfl]
    have d9 : DW Fv (PQ AN (PR + 1)) (PR + 1) w9 := DW_q dv (by omega) (by rw [FR.A v1 (by decide)]; exact nal) ⟨0 + sz, ow2, kd2, 0, 0, 0, h89, cx9⟩ (FR.mo c1 (by decide) (by decide) (by decide) (by decide)) (by rw [FR.F c1 (by decide)]; exact dv.2.2.2.1) (fun y hy => by rw [c2, if_neg hy]) (fun y _ => FR.A c1 (by decide)) (fun y _ => FR.A c1 (by decide)) (fun y _ => FR.A c1 (by decide)) (fun i hi => c3 i (by omega)) (fun i _ => by rw [c1.2.2.2 91 (by decide)]) (fun i _ => by rw [c1.2.2.2 93 (by decide)]) (fun i _ => by rw [c1.2.2.2 107 (by decide)])
    have s9 : SPR PR u w9 := SPR.tr sv c1 (OTF_fr c1 (by decide)) (by decide) (by decide) (by decide) (by decide) (by decide) (by decide) (fun y _ => FR.A c1 (by decide))
    have fb9 : FR [] [] [89, 101, 142] [88, 141] b w9 := FR.tr (FR.mo v1 (by decide) (by decide) (by decide) (by decide)) (FR.mo c1 (by decide) (by decide) (by decide) (by decide))
    refine ok_br.mpr ⟨fun zl => ?_, fun zl => ?_⟩
    · have nr0 : NEWR b UN FN PR 0 := by
        rcases nr with ⟨nr, -⟩ | ⟨nr, -⟩
        · exact nr
        · have := lg_lt0.mp (of_decide_eq_true zl); omega
      exact sp286 (N := N) e hAN hw hT hH hG hq hm hx h98 hpr s9 d9 (NEWR_h (NEWR_fr (NEWR_fr nr0 v1 (by decide)) c1 (by decide)) (by rw [FR.A c1 (by decide), FR.A v1 (by decide), b94]; rfl))
    · have nr1 : ∀ w, SPR PR u w → FR [] [] [89, 101, 142] [88, 141] b w → A w 101 (60 * PR) = h → NEWR w UN FN PR h := by
        rcases nr with ⟨-, nr⟩ | ⟨-, nr⟩
        · exact absurd (lg_lt0.mpr nr) (of_decide_eq_false zl)
        · exact nr
      have bk := (HP_bk g1 (Or.inl so9) gt9).1
      have vt : va r9 = (vn r9 : Int) := by have := bk.1; unfold vn; omega
      have bn := bk.2.2.2.1
      have b2 : 2 ≤ blk (hp w9 PR) r9 := blk_2 so9
      have hv' : va (hp w9 PR (vn r9 + 1)) = (h : Int) := by
        have := (bk.2.2.1 so9).1
        rw [← hv, ← cell1]; unfold vn at *; omega
      have ci : (hp w9 PR (vn r9 + 1)).toInt32 = I (h : Int) := by
        have : (hp w9 PR (vn r9 + 1)).toInt32.toInt = (h : Int) := hv'
        rw [I_of (hp w9 PR (vn r9 + 1)).toInt32, this]
      rw [valueOf_e, bnd_so, vt, lit1q, I_add, show (vn r9 : Int) + 1 = ((vn r9 + 1 : Nat) : Int) from by omega, cell_e (by omega) (by omega), bnd_so, ci, show (60 : Int32) = I 60 from rfl, I_mul]
      refine ok_ck.mpr ⟨inb_at (k := 101) (n := 1440) rfl (by omega) (by omega) (by decide), ok_lt.mpr ?_⟩
      rw [I_tn (x := (PR : Int) * 60) (by omega) (by omega), show ((PR : Int) * 60).toNat = 60 * PR from by omega, wa_e, show (0 : Int32) = I ((0 : Nat) : Int) from rfl]
      have f10 : FR [] [] [101] [] w9 (wa w9 101 (60 * PR) (h : Int)) := FR.wa FR.rf (by decide)
      have a101 : A (wa w9 101 (60 * PR) (h : Int)) 101 (60 * PR) = h := by rw [A_eq (by omega) (by omega), if_pos rfl]
      have o10 : OTF PR w9 (wa w9 101 (60 * PR) (h : Int)) := OTF_at f10 (i0 := 60 * PR) (fun y hy => by rw [A_eq (by omega) (by omega), if_neg hy]) (Or.inr (Or.inl ⟨by decide, by omega, by omega⟩))
      have hp10 : hp (wa w9 101 (60 * PR) (h : Int)) PR = hp w9 PR := rfl
      generalize wa w9 101 (60 * PR) (h : Int) = w10 at *
      have s10 := SPR.tr s9 f10 o10 (by decide) (by decide) (by decide) (by decide) (by decide) (by decide) (fun y _ => FR.A f10 (by decide))
      have fb10 : FR [] [] [89, 101, 142] [88, 141] b w10 := FR.tr fb9 (FR.mo f10 (by decide) (by decide) (by decide) (by decide))
      obtain ⟨y1, y2, y3, y4, y5, y6, y7, y8, y9, y10, y11⟩ := cx9
      exact sp234 (N := N) e hAN hw hT hH hG hq hm hx h98 hpr s10 (DW_fr d9 f10 (by decide) (by decide) (by decide) (by decide) (by decide) (by decide) (by decide) (by decide) (by decide) (by decide) (by decide) (by decide) (by decide) (by decide) (by decide) (by decide) (by decide)) (by rw [FR.A f10 (by decide)]; exact h89) ⟨rfl, by rw [hp10]; exact y2, y3, y4, by rw [FR.A f10 (by decide)]; exact y5, by rw [FR.A f10 (by decide)]; exact y6, by rw [FR.A f10 (by decide)]; exact y7, fun i hi => absurd hi (Nat.not_lt_zero i), fun i hi => absurd hi (Nat.not_lt_zero i), fun i hi => absurd hi (Nat.not_lt_zero i), fun z => by rw [FR.F f10 (by decide), FR.F c1 (by decide), dv.2.2.2.1] at z; omega⟩ (nr1 w10 s10 fb10 a101) (GT_mo hP gt9) so9 (by rw [hp10, cell1]; exact hv) h 0 w10 N (by omega) (by omega) FR.rf (fun _ _ => rfl) (fun i hi => absurd hi (Nat.not_lt_zero i))
  · rw [lit1q, show (20 : Int32) = I 20 from rfl, term_e, bnd_so, lit0q]
    refine ok_bnd.mpr (ok_mono (willEnd_ok (N := N) (p := PR) (o := PR) (wr := 0) dv (by omega) (by omega) (by omega) (Or.inl ⟨nh_mk (by omega), (PQ_b hAN (by omega)).1 20 (by omega) (by omega)⟩)) (fun w _ hw' => ?_))
    obtain ⟨w1, w2, w3, w4⟩ := hw'
    exact sp286 (N := N) e hAN hw hT hH hG hq hm hx h98 hpr (SPR.tr sv w2 (OTF_fr w2 (by decide)) (by decide) (by decide) (by decide) (by decide) (by decide) (by decide) w4) w1 (Or.inl w3)
end
