section
variable {Fv : Int64 → Int64 → Prop} {P P2 : Int64 → Prop} {u v w w2 x y b : MS} {PR PR2 N p n n2 opM bnM bxM bx2 ND fr k tp mu CN PN SN UN FN rq q m h mm AN z j : Nat} {ow kd ow2 kd2 ro rn rh cb pc ct pM pE : Nat → Nat} {T : TY} {C : CY}
set_option maxRecDepth 100000 in
theorem spawnR (e : ERX Fv (PQ AN PR) PR T C ND CN p u fr ro rn rh cb pc ct q n ow kd (ro (fr - 1) + tH T q) (rn (fr - 1) + rh (fr - 1) + tM T q) bxM mu) (hAN : 22 ≤ AN) (hp' : PGM Fv (PQ AN PR) PR T C pM pE ND CN PN SN UN FN u) (hfv : FVW Fv u UN FN) (hw : WLD u T ND UN FN PR p) (hG : tG T q = 0) (hq : tB T q + 1 ≤ tH T q) (hm : m < ND) (hx : NX T q m (tH T q) (tM T q)) (h98 : A u 98 (60 * p + (fr - 1)) = ((m : Nat) : Int)) (hN : 60000 ≤ N) : OK (fun v _ => RSW Fv AN T C ND CN UN FN p mu u v) (fm_M_spawnRun N u) := by
  have i := e.1
  have x4 := MEI_p i
  have hH := (hp'.1.2.2.1 q e.2.2.1).1.1
  have hf := e.2.1.1
  have hT := PRG_26 hp'.1
  have pr := i.1.1.2
  have hg := i.2.2.2.2.2.2.1
  have n500 : n ≤ 500 := i.2.2.2.2.2.2.2.1
  have fn := hp'.1.1.2.2.2.2.1
  have un := hp'.1.1.2.2.2.1
  have cn := hp'.1.1.2.1
  have bad : OK (fun v _ => RSW Fv AN T C ND CN UN FN p mu u v) (fb_M_spawnRun_91 N (gg_M_spawnRun N N) u) := by
    unfold fb_M_spawnRun_91
    exact ok_bnd.mpr (ok_mono (err_ok (N := N) (a := 11) e hp' (by omega) hN) (fun y _ hy => ok_some.mpr (RES_rsw hy hw hT i.2.1)))
  obtain ⟨t0, g0⟩ := top_ok (N := N) (k := 0) i (by omega)
  generalize u.2.2.2 91 (46000 * p + (ro (fr - 1) + tH T q - 1 - 0)) = t at *
  have rt := so_r t
  unfold fm_M_spawnRun fb_M_spawnRun_0
  rw [show (0 : Int32) = I ((0 : Nat) : Int) from rfl, t0, bnd_so, sortOf_e, bnd_so, show (3 : Int32) = I 3 from rfl, decE rt.1 rt.2 (by omega) (by omega)]
  unfold fb_M_spawnRun_30
  refine ok_br.mpr ⟨fun z3 => ?_, fun z3 => ?_⟩
  · have so3 := of_decide_eq_true z3
    have ht : isH t := Or.inl so3
    obtain ⟨bk, parts⟩ := HP_bk hg ht g0
    have b2 : 2 ≤ blk (hp u p) t := blk_2 so3
    have bn := bk.2.2.2.1
    have vt : va t = (vn t : Int) := by have := bk.1; unfold vn; omega
    obtain ⟨bv, bF⟩ := bk.2.2.1 so3
    have vh : va (hp u p (vn t + 1)) = (vn (hp u p (vn t + 1)) : Int) := by unfold vn at *; omega
    rw [valueOf_e, bnd_so, I_F' i.2.2.1, vt, cell_e (by omega) (by omega), bnd_so, sortOf_e, bnd_so, show (3 : Int32) = I 3 from rfl, decE rt.1 rt.2 (by omega) (by omega), z3, br_tq]
    have base : ∀ (s1 b : MS), s1 = npS u PR → PR < 24 → FR [] [] [96, 170] [] s1 b → OTF PR s1 b → SPR PR u b ∧ DW Fv (PQ AN (PR + 1)) (PR + 1) b ∧ FR [118] [] [89, 90, 92, 94, 95, 96, 97, 98, 99, 100, 101, 106, 108, 109, 110, 112, 113, 114, 115, 117, 132, 170] [111] u b ∧ A b 89 PR = 0 ∧ A b 94 PR = 0 ∧ A b 92 PR = 0 ∧ A b 108 PR = 0 ∧ A b 109 PR = 5 ∧ A b 95 PR = 1 ∧ A b 106 PR = 0 ∧ A b 99 (60 * PR) = 0 ∧ A b 100 (60 * PR) = 0 ∧ A b 101 (60 * PR) = 0 := fun s1 b hs1 hpr fb ob => by
      subst hs1
      refine ⟨SPR.tr SPR_np fb ob (by decide) (by decide) (by decide) (by decide) (by decide) (by decide) (fun y _ => FR.A fb (by decide)), DW_fr (DW_grow i.1 (PQ_mo (by omega)) hpr) fb (by decide) (by decide) (by decide) (by decide) (by decide) (by decide) (by decide) (by decide) (by decide) (by decide) (by decide) (by decide) (by decide) (by decide) (by decide) (by decide) (by decide), FR.tr (FR.mo np_fr (by decide) (by decide) (by decide) (by decide)) (FR.mo fb (by decide) (by decide) (by decide) (by decide)), ?_, ?_, ?_, ?_, ?_, ?_, ?_, ?_, ?_, ?_⟩
      · rw [FR.A fb (by decide), np_row (by decide), if_pos rfl]
      · rw [FR.A fb (by decide), np_row (by decide), if_pos rfl]
      · rw [FR.A fb (by decide), np_row (by decide), if_pos rfl]
      · rw [FR.A fb (by decide), np_row (by decide), if_pos rfl]
      · rw [FR.A fb (by decide), np_109, if_pos rfl]
      · rw [FR.A fb (by decide), np_95, if_pos rfl]
      · rw [FR.A fb (by decide), np_row (by decide), if_pos rfl]
      · rw [FR.A fb (by decide), np_fr0 (by decide), if_pos rfl]
      · rw [FR.A fb (by decide), np_fr0 (by decide), if_pos rfl]
      · rw [FR.A fb (by decide), np_fr0 (by decide), if_pos rfl]
    have kprow : ∀ (w : MS), SPR PR u w → ∀ k, k ∈ KP → ∀ i, A w k i = A u k i := fun w s k hk i => FR.A s.1 (by revert hk; unfold KP; simp; omega)
    have y75a : ∀ (v3 : Int64) (ar : Int32) (x c : Nat), 0 ≤ v3.toInt → x < UN → v3.toInt32 = I x → A u 54 x = (vn (hp u p (vn t + 1)) : Int) → vn (hp u p (vn t + 1)) ≤ 40 → A u 53 x = c → (ar = 0 → A u 41 c = 0) → OK (fun v _ => RSW Fv AN T C ND CN UN FN p mu u v) (fb_M_spawnRun_75 N (gg_M_spawnRun N N) u t v3 ar) := fun v3 ar x c q0 q1 q2 q3 q4 q5 q6 => by
      unfold fb_M_spawnRun_75
      refine ok_br.mpr ⟨fun za => ?_, fun _ => bad⟩
      have za' := q6 (of_decide_eq_true za)
      rw [I_F' i.1.1.1, show (24 : Int32) = I 24 from rfl, decE (by omega) (by omega) (by omega) (by omega)]
      refine ok_br.mpr ⟨fun _ => bad, fun z24 => ?_⟩
      have hpr : PR < 24 := by have := of_decide_eq_false z24; omega
      rw [newProcess_e i.1.1.1 hpr, bnd_so]
      obtain ⟨s1, hs1⟩ : ∃ s1, s1 = npS u PR := ⟨_, rfl⟩
      have s96 : A s1 96 (60 * PR) = -1 := by rw [hs1, np_fr1 (by decide), if_pos rfl]
      rw [← hs1]
      refine ok_ck.mpr ⟨inb_at (k := 170) (n := 24) rfl (by omega) (by omega) (by decide), ok_lt.mpr ?_⟩
      rw [I_tn (x := (PR : Int)) (by omega) (by omega), Int.toNat_natCast, show (-1 : Int32) = I (-1) from rfl, wa_e]
      refine ok_br.mpr ⟨fun _ => ok_ck.mpr ⟨inb_at (k := 170) (n := 24) rfl (by omega) (by omega) (by decide), ok_lt.mpr ?_⟩, fun z => absurd (lg_ge0.mpr q0) (of_decide_eq_false z)⟩
      rw [q2, wa_e]
      have fb : FR [] [] [96, 170] [] s1 (wa (wa s1 170 PR (-1)) 170 PR (x : Int)) := FR.wa (FR.wa FR.rf (by decide)) (by decide)
      have ob : OTF PR s1 (wa (wa s1 170 PR (-1)) 170 PR (x : Int)) := OTF.tr (OTF_170 (by omega) (by omega)) (OTF_170 (by omega) (by omega))
      have b170 : A (wa (wa s1 170 PR (-1)) 170 PR (x : Int)) 170 PR = x := by rw [A_eq (by omega) (by omega), if_pos rfl]
      have b96 : A (wa (wa s1 170 PR (-1)) 170 PR (x : Int)) 96 (60 * PR) = -1 := by rw [A_ne (by decide), A_ne (by decide)]; exact s96
      generalize wa (wa s1 170 PR (-1)) 170 PR (x : Int) = b at *
      obtain ⟨r1, r2, r3, r4, r5, r6, r7, r8, r9, r10, r11, r12, r13⟩ := base s1 b hs1 hpr fb ob
      refine sp150 (N := N) e hAN hw hT hH hG hq hm hx h98 hpr r1 r2 r3 r4 r5 r6 r7 r8 g0 so3 rfl q4 (Or.inr ⟨q0, fun w sw fw h101 => ?_⟩) hN
      have kw := kprow w sw
      exact ⟨by rw [FR.A fw (by decide)]; exact r8, by rw [FR.A fw (by decide)]; exact r9, by rw [FR.A fw (by decide)]; exact r6, by rw [FR.A fw (by decide)]; exact r10, by rw [FR.A fw (by decide)]; exact r11, by rw [FR.A fw (by decide)]; exact r12, q4, h101, Or.inl ⟨by rw [FR.A fw (by decide)]; exact b96, x, q1, by rw [FR.A fw (by decide)]; exact b170, by rw [kw 54 (by decide)]; exact q3, c, by rw [kw 53 (by decide)]; exact q5, by rw [kw 41 (by decide)]; exact za'⟩⟩
    have y75b : ∀ (v3 : Int64) (ar : Int32) (f : Nat), v3.toInt < 0 → f < FN → (-1 - v3).toInt32 = I f → vn (hp u p (vn t + 1)) = 0 → (ar = 0 → A u 48 f = 0) → OK (fun v _ => RSW Fv AN T C ND CN UN FN p mu u v) (fb_M_spawnRun_75 N (gg_M_spawnRun N N) u t v3 ar) := fun v3 ar f q0 q1 q2 q3 q4 => by
      unfold fb_M_spawnRun_75
      refine ok_br.mpr ⟨fun za => ?_, fun _ => bad⟩
      have za' := q4 (of_decide_eq_true za)
      rw [I_F' i.1.1.1, show (24 : Int32) = I 24 from rfl, decE (by omega) (by omega) (by omega) (by omega)]
      refine ok_br.mpr ⟨fun _ => bad, fun z24 => ?_⟩
      have hpr : PR < 24 := by have := of_decide_eq_false z24; omega
      rw [newProcess_e i.1.1.1 hpr, bnd_so]
      obtain ⟨s1, hs1⟩ : ∃ s1, s1 = npS u PR := ⟨_, rfl⟩
      have s96 : A s1 96 (60 * PR) = -1 := by rw [hs1, np_fr1 (by decide), if_pos rfl]
      rw [← hs1]
      refine ok_ck.mpr ⟨inb_at (k := 170) (n := 24) rfl (by omega) (by omega) (by decide), ok_lt.mpr ?_⟩
      refine ok_br.mpr ⟨fun z => absurd (lg_ge0.mp (of_decide_eq_true z)) (by omega), fun _ => ?_⟩
      have e60 : I (PR : Int) * 60 = I ((PR : Int) * 60) := by rw [show (60 : Int32) = I 60 from rfl, I_mul]
      refine ok_ck.mpr ⟨by rw [e60]; exact inb_at (k := 96) (n := 1440) rfl (by omega) (by omega) (by decide), ok_lt.mpr ?_⟩
      rw [q2, I_tn (x := (PR : Int)) (by omega) (by omega), Int.toNat_natCast, show (I (PR : Int) * 60).toNatClampNeg = 60 * PR from by rw [e60, I_tn (by omega) (by omega)]; omega, show (-1 : Int32) = I (-1) from rfl, wa_e (k := 170), wa_e (k := 96)]
      have fb : FR [] [] [96, 170] [] s1 (wa (wa s1 170 PR (-1)) 96 (60 * PR) (f : Int)) := FR.wa (FR.wa FR.rf (by decide)) (by decide)
      have ob : OTF PR s1 (wa (wa s1 170 PR (-1)) 96 (60 * PR) (f : Int)) := OTF.tr (OTF_170 (by omega) (by omega)) (OTF_96 (by omega) (by omega) (by omega))
      have b96 : A (wa (wa s1 170 PR (-1)) 96 (60 * PR) (f : Int)) 96 (60 * PR) = f := by rw [A_eq (by omega) (by omega), if_pos rfl]
      generalize wa (wa s1 170 PR (-1)) 96 (60 * PR) (f : Int) = b at *
      obtain ⟨r1, r2, r3, r4, r5, r6, r7, r8, r9, r10, r11, r12, r13⟩ := base s1 b hs1 hpr fb ob
      have kw := kprow b r1
      exact sp150 (N := N) e hAN hw hT hH hG hq hm hx h98 hpr r1 r2 r3 r4 r5 r6 r7 r8 g0 so3 rfl (by omega) (Or.inl ⟨⟨r8, r9, r6, r10, r11, r12, by omega, r13, Or.inr ⟨rfl, f, q1, b96, by rw [kw 48 (by decide)]; exact za'⟩⟩, q0⟩) hN
    rcases hfv.2.2 _ _ bF with ⟨f, h1, h2, h3⟩ | ⟨x, h1, h2, h3⟩
    · rw [h2]
      have n1 : ¬ (0 : Int) ≤ -1 - (f : Int) := by omega
      have n2 : -1 - (f : Int) < 0 := by omega
      have n3 : vn (hp u p (vn t + 1)) = 0 := by omega
      have in48 : inb (I (f : Int)) (ln 48) = true := inb_at (k := 48) (n := 1000) rfl (by omega) (by omega) (by decide)
      have tf : (I (f : Int)).toNatClampNeg = f := by rw [I_tn (by omega) (by omega), Int.toNat_natCast]
      obtain ⟨w1, w2⟩ := w64_n (x := (f : Int)) (by omega) (by omega)
      refine ok_br.mpr ⟨fun z => absurd (lg_ge0.mp (of_decide_eq_true z)) (by rw [w1]; exact n1), fun _ => ?_⟩
      rw [w2]
      refine ok_ck.mpr ⟨in48, y75b _ _ f (by rw [w1]; exact n2) h1 w2 n3 (fun z => ?_)⟩
      rw [tf] at z
      unfold A; rw [z]; rfl
    · rw [h2]
      obtain ⟨a, hh, r, v1, v2, v3, v4, v5, c, d1, d2, d3, -⟩ := hp'.1.2.2.2.2.2 x h1
      have n1 : (0 : Int) ≤ (x : Int) := by omega
      have n2 : A u 54 x = (vn (hp u p (vn t + 1)) : Int) := by omega
      have n3 : vn (hp u p (vn t + 1)) ≤ 40 := by omega
      have in53 : inb (I (x : Int)) (ln 53) = true := inb_at (k := 53) (n := 1400) rfl (by omega) (by omega) (by decide)
      have in41 : inb (I (c : Int)) (ln 41) = true := inb_at (k := 41) (n := 1400) rfl (by omega) (by omega) (by decide)
      have tx : (I (x : Int)).toNatClampNeg = x := by rw [I_tn (by omega) (by omega), Int.toNat_natCast]
      have tc : (I (c : Int)).toNatClampNeg = c := by rw [I_tn (by omega) (by omega), Int.toNat_natCast]
      have w1 := w64_i (x := (x : Int)) (by omega) (by omega)
      refine ok_br.mpr ⟨fun _ => ?_, fun z => absurd (lg_ge0.mpr (by rw [w1]; exact n1)) (of_decide_eq_false z)⟩
      rw [Int32.toInt32_toInt64]
      refine ok_ck.mpr ⟨in53, ?_⟩
      rw [tx, I_A' d1]
      refine ok_ck.mpr ⟨in41, y75a _ _ x c (by rw [w1]; exact n1) h1 (by rw [Int32.toInt32_toInt64]) n2 n3 d1 (fun z => ?_)⟩
      rw [tc] at z
      unfold A; rw [z]; rfl
  · rw [sortOf_e, bnd_so, show (3 : Int32) = I 3 from rfl, decE rt.1 rt.2 (by omega) (by omega), z3, br_fq]
    unfold fb_M_spawnRun_75
    exact ok_br.mpr ⟨fun z => absurd (of_decide_eq_true z) (by decide), fun _ => bad⟩
end
