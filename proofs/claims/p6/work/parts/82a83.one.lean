section
variable {Fv : Int64 → Int64 → Prop} {P P2 : Int64 → Prop} {u v w w2 x y : MS} {PR PR2 N p n n2 opM bnM bxM bx2 ND fr k tp mu CN PN SN UN FN rq q m h mm AN z j : Nat} {ow kd ow2 kd2 ro rn rh cb pc ct pM pE : Nat → Nat} {T : TY} {C : CY}
set_option maxRecDepth 100000 in
theorem one_b {kk : Int} (ev : ERX Fv (PQ AN PR) PR T C ND CN p v fr ro rn rh cb pc ct q n ow kd (ro (fr - 1) + tH T q) (rn (fr - 1) + rh (fr - 1) + tM T q) bxM mu) (hp' : PGM Fv (PQ AN PR) PR T C pM pE ND CN PN SN UN FN v) (hA : F v 14 = ((AN : Nat) : Int)) (hA2 : AN ≤ 3000) (hfv : FVW Fv v UN FN) (hw : WLD v T ND UN FN PR p) (h98 : A v 98 (60 * p + (fr - 1)) = ((q + 1 : Nat) : Int)) (hkk : A v 23 q = kk) (hk1 : 1 ≤ kk ∧ kk ≤ 31) (hk2 : kk ≠ 24 ∧ kk ≠ 25 ∧ kk ≠ 12 ∧ kk ≠ 13 ∧ kk ≠ 27 ∧ kk ≠ 21 ∧ kk ≠ 31 ∧ kk ≠ 29) (nq : q + 1 < ND) (hN : 11000000 ≤ N) : OK (fun y _ => RSW Fv AN T C ND CN UN FN p mu v y) (br (decide (I kk = 1)) (ck (inb (I q) (ln 25)) (ck (inb (I q) (ln 26)) (bnd (fm_M_term N v (v.2.2.1 25 (I q).toNatClampNeg) (v.2.2.1 26 (I q).toNatClampNeg)) (fun u27 r27 => bnd (fm_M_put N u27 r27) (fun u28 _ => fb_M_one_468 N () u28))))) (br (decide (I kk = 3)) (ck (inb (I q) (ln 25)) (bnd (fm_M_nameAt N v (v.2.2.1 25 (I q).toNatClampNeg)) (fun u25 r25 => bnd (fm_M_put N u25 r25) (fun u26 _ => fb_M_one_468 N () u26)))) (br (decide (I kk = 2)) (ck (inb (I q) (ln 25)) (bnd (fm_M_stringRun N v (v.2.2.1 25 (I q).toNatClampNeg)) (fun u24 _ => fb_M_one_468 N () u24))) (br (decide (I kk = 4)) (ck (inb (I q) (ln 25)) (bnd (fm_M_tupleRun N v (v.2.2.1 25 (I q).toNatClampNeg)) (fun u23 _ => fb_M_one_468 N () u23))) (br (decide (I kk = 5)) (ck (inb (I q) (ln 25)) (ck (inb (I q) (ln 26)) (bnd (fm_M_listRun N v (v.2.2.1 25 (I q).toNatClampNeg) (v.2.2.1 26 (I q).toNatClampNeg)) (fun u22 _ => fb_M_one_468 N () u22)))) (br (decide (I kk = 6)) (ck (inb (I q) (ln 25)) (bnd (fm_M_twoRun N v (v.2.2.1 25 (I q).toNatClampNeg)) (fun u21 _ => fb_M_one_468 N () u21))) (br (decide (I kk = 17)) (bnd (fm_M_take N v) (fun u20 r20 => fb_M_one_468 N () u20)) (br (decide (I kk = 18)) (ck (inb (I q) (ln 25)) (bnd (fm_M_namesTo N v (v.2.2.1 25 (I q).toNatClampNeg)) (fun u19 _ => fb_M_one_468 N () u19))) (br (decide (I kk = 26)) (ck (inb (I q) (ln 25)) (br (decide ((v.2.2.1 25 (I q).toNatClampNeg) = (-2))) (ck (inb (I q) (ln 26)) (ck (inb (v.2.2.1 26 (I q).toNatClampNeg) (ln 26)) (fb_M_one_339 N () v ((v.2.2.1 26 (v.2.2.1 26 (I q).toNatClampNeg).toNatClampNeg))))) (ck (inb (I q) (ln 25)) (fb_M_one_339 N () v ((v.2.2.1 25 (I q).toNatClampNeg)))))) (br (decide (I kk = 16)) (ck (inb (v.1 133) (ln 94)) (lt (v.2.2.1 94 (v.1 133).toNatClampNeg) (fun y13 => ck (inb (I q) (ln 25)) (bnd (fm_M_top N v 0) (fun u14 r14 => bnd (fm_M_fits N u14 (v.2.2.1 25 (I q).toNatClampNeg) r14) (fun u15 r15 => br (decide (r15 = 0)) (ck (inb (u15.1 133) (ln 94)) (lt (upA u15 94 (upd (u15.2.2.1 94) (u15.1 133).toNatClampNeg y13)) (fun w16 => bnd (fm_M_top N w16 0) (fun u17 r17 => bnd (fr_M_errorOf N u17 13 r17) (fun u18 _ => fb_M_one_400 N () u18))))) (fb_M_one_400 N () u15))))))) (br (decide (I kk = 14)) (fb_M_one_415 N () v (I q) (I kk)) (br (decide (I kk = 15)) (fb_M_one_415 N () v (I q) (I kk)) (br (decide (I kk = 22)) (bnd (fm_M_take N v) (fun u10 r10 => bnd (fm_M_truth N u10 1) (fun u11 r11 => br (decide ((lg_cmp r10 r11) = 0)) (fb_M_one_468 N () u11) (bnd (fr_M_guardFails N u11) (fun u12 _ => fb_M_one_468 N () u12))))) (br (decide (I kk = 23)) (bnd (fm_M_chosen N v) (fun u9 _ => fb_M_one_468 N () u9)) (bnd (fm_M_otherRun N v (I q) (I kk)) (fun u8 _ => fb_M_one_468 N () u8)))))))))))))))) := by
  have i := ev.1
  have a4 := ev.2.2.1
  have nd := hp'.1.1.1
  have hT := PRG_26 hp'.1
  have sn := hp'.1.2.1.1
  obtain ⟨-, wa', wb⟩ := hp'.1.2.2.1 q a4
  have fin : ∀ y, RES Fv (PQ AN PR) PR T C ND CN p mu v y → RSW Fv AN T C ND CN UN FN p mu v y := fun y hy => RES_rsw hy hw hT i.2.1
  have inq : inb (I (q : Int)) (ln 25) = true := inb_at (k := 25) (n := 16000) rfl (by omega) (by omega) (by decide)
  have inq6 : inb (I (q : Int)) (ln 26) = true := inb_at (k := 26) (n := 16000) rfl (by omega) (by omega) (by decide)
  have tq : (I (q : Int)).toNatClampNeg = q := by rw [I_tn (by omega) (by omega), Int.toNat_natCast]
  have dk : ∀ c : Int, 0 ≤ c → c < 100 → decide (I kk = I c) = decide (kk = c) := fun c h1 h2 => decE (by omega) (by omega) (by omega) (by omega)
  have at1 : ∀ a : Int, 0 ≤ a → a < F v 14 → PQ AN PR (mk 1 a) := fun a h1 h2 => PQ_atom h1 (by omega) hA2
  refine ok_br.mpr ⟨fun z => ?_, fun z1 => ok_br.mpr ⟨fun z => ?_, fun z3 => ok_br.mpr ⟨fun z => ?_, fun z2 => ok_br.mpr ⟨fun z => ?_, fun z4 => ok_br.mpr ⟨fun z => ?_, fun z5 => ok_br.mpr ⟨fun z => ?_, fun z6 => ok_br.mpr ⟨fun z => ?_, fun z17 => ok_br.mpr ⟨fun z => ?_, fun z18 => ok_br.mpr ⟨fun z => ?_, fun z26 => ok_br.mpr ⟨fun z => ?_, fun z16 => ok_br.mpr ⟨fun z => ?_, fun z14 => ok_br.mpr ⟨fun z => ?_, fun z15 => ok_br.mpr ⟨fun z => ?_, fun z22 => ok_br.mpr ⟨fun z => ?_, fun z23 => ?_⟩⟩⟩⟩⟩⟩⟩⟩⟩⟩⟩⟩⟩⟩
  · have e := of_decide_eq_true ((dk 1 (by omega) (by omega)).symm.trans z)
    obtain ⟨w1, w2⟩ := wb.1 (by omega)
    exact ok_mono (i1 (N := N) ev hp' at1 nq w2 h98 rfl rfl (by omega)) (fun y _ hy => fin y hy)
  · have e := of_decide_eq_true ((dk 3 (by omega) (by omega)).symm.trans z)
    obtain ⟨w1, w2⟩ := wb.2.2.1 (by omega)
    exact ok_mono (i3 (N := N) ev hp' nq w2 h98 rfl w1) (fun y _ hy => fin y hy)
  · have e := of_decide_eq_true ((dk 2 (by omega) (by omega)).symm.trans z)
    obtain ⟨w1, w2, w3⟩ := wb.2.1 (by omega)
    obtain ⟨s, hs⟩ : ∃ s : Nat, A v 25 q = s := ⟨(A v 25 q).toNat, by omega⟩
    rw [inq, ck_t, tq, I_A' hs]
    exact ok_bnd.mpr (ok_mono (i2 (N := N) ev hp' (by omega) nq w3 h98 (by omega)) (fun y _ hy => ok_some.mpr (fin y hy)))
  · have e := of_decide_eq_true ((dk 4 (by omega) (by omega)).symm.trans z)
    obtain ⟨a, w1, w2, w3, w4⟩ := wb.2.2.2.1 (by omega)
    rw [inq, ck_t, tq, I_A' w1]
    exact ok_bnd.mpr (ok_mono (i4 (N := N) ev hp' w3 w2 nq w4 h98 (by omega)) (fun y _ hy => ok_some.mpr (fin y hy)))
  · have e := of_decide_eq_true ((dk 5 (by omega) (by omega)).symm.trans z)
    obtain ⟨a, b, w1, w2, w3, w4, w5, w6⟩ := wb.2.2.2.2.1 (by omega)
    rw [inq, ck_t, inq6, ck_t, tq, I_A' w1, I_A' w2]
    exact ok_bnd.mpr (ok_mono (i5 (N := N) ev hp' w5 w3 w4 nq w6 h98 (by omega)) (fun y _ hy => ok_some.mpr (fin y hy)))
  · have e := of_decide_eq_true ((dk 6 (by omega) (by omega)).symm.trans z)
    obtain ⟨w1, w2, w3⟩ := wb.2.2.2.2.2.1 (by omega)
    have r25 := A_r v 25 q
    rw [inq, ck_t, tq, I_A (k := 25)]
    exact ok_bnd.mpr (ok_mono (i6 (N := N) ev hp' w1 nq w2 h98 w3 r25.2 hN) (fun y _ hy => ok_some.mpr (fin y hy)))
  · have e := of_decide_eq_true ((dk 17 (by omega) (by omega)).symm.trans z)
    obtain ⟨-, w1, w2⟩ := wa'.2.2.2.2.2.1 (by omega)
    exact ok_mono (i17 (N := N) ev w1 nq w2 h98) (fun y _ hy => fin y hy)
  · have e := of_decide_eq_true ((dk 18 (by omega) (by omega)).symm.trans z)
    obtain ⟨-, a, w1, w2, w3, w4⟩ := wa'.2.2.2.2.2.2.1 (by omega)
    exact ok_mono (i18 (N := N) ev nd nq w1 w3 w4 h98) (fun y _ hy => fin y hy)
  · have e := of_decide_eq_true ((dk 26 (by omega) (by omega)).symm.trans z)
    obtain ⟨-, w1⟩ := wa'.2.2.2.2.2.2.2.2.2.2.2.2.2.2.2 (by omega)
    unfold fb_M_one_339 fb_M_one_468
    rw [inq, ck_t, ck_t, inq6, ck_t, tq]
    have r25 := A_r v 25 q
    rcases w1 with ⟨a, a1, a2, a3⟩ | ⟨a1, r, r1, r2, b, b1, b2, b3⟩
    · rw [I_A' a1]
      refine ok_br.mpr ⟨fun y => ?_, fun _ => ok_bnd.mpr (ok_mono (gotoR (N := N) ev a2 nd a3 rfl rfl) (fun y _ hy => ok_some.mpr (fin y hy)))⟩
      rw [show (-2 : Int32) = I (-2) from rfl, decE (by omega) (by omega) (by omega) (by omega)] at y
      have := of_decide_eq_true y; omega
    · rw [I_A' a1]
      refine ok_br.mpr ⟨fun _ => ?_, fun y => absurd rfl (of_decide_eq_false y)⟩
      rw [I_A' r1]
      refine ok_ck.mpr ⟨inb_at (k := 26) (n := 16000) rfl (by omega) (by omega) (by decide), ?_⟩
      rw [I_tn (x := (r : Int)) (by omega) (by omega), Int.toNat_natCast, I_A' b1]
      exact ok_bnd.mpr (ok_mono (gotoR (N := N) ev b2 nd b3 rfl rfl) (fun y _ hy => ok_some.mpr (fin y hy)))
  · have e := of_decide_eq_true ((dk 16 (by omega) (by omega)).symm.trans z)
    obtain ⟨-, w1, m2, w2, w3⟩ := wa'.2.2.2.2.1 (by omega)
    exact ok_mono (i16 (N := N) ev hp' w1 nq w2 w3 h98 (by omega)) (fun y _ hy => fin y hy)
  · have e := of_decide_eq_true ((dk 14 (by omega) (by omega)).symm.trans z)
    obtain ⟨-, ⟨x, w1, w2, w3⟩, w4⟩ := wa'.2.2.1 (by omega)
    obtain ⟨aa, hd, r, q1, q2, q3, q4, q5, -⟩ := hp'.1.2.2.2.2.2 x w2
    obtain ⟨b0, hb0⟩ : ∃ b0 : Nat, A v 55 x = b0 := ⟨(A v 55 x).toNat, by omega⟩
    unfold fb_M_one_415
    rw [e]
    exact ok_bnd.mpr (ok_mono (i14 (N := N) (x := x) (h := hd) (b0 := b0) ev hp' hfv nq w4 h98 w1 w2 q1 q2 hb0 (by omega) (fun j hj => by
      have := w3 j (by omega)
      rw [hb0, Int.toNat_natCast] at this
      exact this) (by omega)) (fun y _ hy => ok_some.mpr (fin y hy)))
  · have e := of_decide_eq_true ((dk 15 (by omega) (by omega)).symm.trans z)
    obtain ⟨-, w1, w2, w3⟩ := wa'.2.2.2.1 (by omega)
    unfold fb_M_one_415
    rw [e]
    exact ok_bnd.mpr (ok_mono (i15 (N := N) ev hp' hfv nq w3 h98 ⟨w1, w2⟩ (by omega)) (fun y _ hy => ok_some.mpr (fin y hy)))
  · have e := of_decide_eq_true ((dk 22 (by omega) (by omega)).symm.trans z)
    obtain ⟨w1, w2, w3⟩ := wb.2.2.2.2.2.2.2.2.2.1 (by omega)
    exact ok_mono (i22 (N := N) ev hp' w1 w2 nq w3 h98 (by omega)) (fun y _ hy => fin y hy)
  · have e := of_decide_eq_true ((dk 23 (by omega) (by omega)).symm.trans z)
    obtain ⟨w1, w2⟩ := wb.2.2.2.2.2.2.2.2.2.2 (by omega)
    exact ok_mono (i23 (N := N) ev hp' w1 w2 (by omega)) (fun y _ hy => fin y hy)
  · have n1 := of_decide_eq_false ((dk 1 (by omega) (by omega)).symm.trans z1)
    have n2 := of_decide_eq_false ((dk 2 (by omega) (by omega)).symm.trans z2)
    have n3 := of_decide_eq_false ((dk 3 (by omega) (by omega)).symm.trans z3)
    have n4 := of_decide_eq_false ((dk 4 (by omega) (by omega)).symm.trans z4)
    have n5 := of_decide_eq_false ((dk 5 (by omega) (by omega)).symm.trans z5)
    have n6 := of_decide_eq_false ((dk 6 (by omega) (by omega)).symm.trans z6)
    have n14 := of_decide_eq_false ((dk 14 (by omega) (by omega)).symm.trans z14)
    have n15 := of_decide_eq_false ((dk 15 (by omega) (by omega)).symm.trans z15)
    have n16 := of_decide_eq_false ((dk 16 (by omega) (by omega)).symm.trans z16)
    have n17 := of_decide_eq_false ((dk 17 (by omega) (by omega)).symm.trans z17)
    have n18 := of_decide_eq_false ((dk 18 (by omega) (by omega)).symm.trans z18)
    have n22 := of_decide_eq_false ((dk 22 (by omega) (by omega)).symm.trans z22)
    have n23 := of_decide_eq_false ((dk 23 (by omega) (by omega)).symm.trans z23)
    have n26 := of_decide_eq_false ((dk 26 (by omega) (by omega)).symm.trans z26)
    clear z1 z2 z3 z4 z5 z6 z14 z15 z16 z17 z18 z22 z23 z26
    unfold fb_M_one_468
    refine ok_bnd.mpr (ok_mono (Q := fun y _ => RSW Fv AN T C ND CN UN FN p mu v y) ?_ (fun y _ hy => ok_some.mpr hy))
    unfold fm_M_otherRun fb_M_otherRun_0
    refine ok_br.mpr ⟨fun z => ?_, fun z9 => ok_br.mpr ⟨fun z => ?_, fun z10 => ok_br.mpr ⟨fun z => ?_, fun z7 => ok_br.mpr ⟨fun z => ?_, fun z8 => ok_br.mpr ⟨fun z => ?_, fun z11 => ok_br.mpr ⟨fun z => ?_, fun z19 => ok_br.mpr ⟨fun z => ?_, fun z20 => ok_br.mpr ⟨fun z => ?_, fun z28 => ?_⟩⟩⟩⟩⟩⟩⟩⟩
    · have e := of_decide_eq_true ((dk 9 (by omega) (by omega)).symm.trans z)
      obtain ⟨w1, w2, a, w3, w4, w5⟩ := wb.2.2.2.2.2.2.2.1 (by omega)
      exact ok_mono (i9 (N := N) ev hp' w1 nq w2 h98 w3 w4 w5 (by omega)) (fun y _ hy => fin y hy)
    · have e := of_decide_eq_true ((dk 10 (by omega) (by omega)).symm.trans z)
      obtain ⟨w1, w2, a, w3, w4, w5⟩ := wb.2.2.2.2.2.2.2.1 (by omega)
      exact ok_mono (i9 (N := N) ev hp' w1 nq w2 h98 w3 w4 w5 (by omega)) (fun y _ hy => fin y hy)
    · have e := of_decide_eq_true ((dk 7 (by omega) (by omega)).symm.trans z)
      obtain ⟨w1, w2⟩ := wb.2.2.2.2.2.2.1 (by omega)
      exact ok_mono (i7 (N := N) ev hp' w1 nq w2 h98 (by omega)) (fun y _ hy => fin y hy)
    · have e := of_decide_eq_true ((dk 8 (by omega) (by omega)).symm.trans z)
      obtain ⟨w1, w2⟩ := wb.2.2.2.2.2.2.1 (by omega)
      exact ok_mono (i8 (N := N) ev hp' w1 nq w2 h98 (by omega)) (fun y _ hy => fin y hy)
    · have e := of_decide_eq_true ((dk 11 (by omega) (by omega)).symm.trans z)
      obtain ⟨w1, w2, w3⟩ := wa'.1 (by omega)
      unfold fb_M_otherRun_328
      exact ok_bnd.mpr (ok_mono (i11 (N := N) ev hp' hw w1 w2 nq w3 h98 (by omega)) (fun y _ hy => ok_some.mpr hy))
    · have e := of_decide_eq_true ((dk 19 (by omega) (by omega)).symm.trans z)
      exact ok_mono (i19 (N := N) ev hp' (by omega) h98) (fun y _ hy => fin y hy)
    · have e := of_decide_eq_true ((dk 20 (by omega) (by omega)).symm.trans z)
      obtain ⟨w1, w2, w3, w4, w5, w6, w7, w8, w9, w10, w11⟩ := wa'.2.2.2.2.2.2.2.2.1 (by omega)
      exact ok_mono (i20 (N := N) ev w1 w2 (hT q a4) nq w3 w4 w5 w7 w6 w10 w11 h98) (fun y _ hy => fin y hy)
    · have e := of_decide_eq_true ((dk 28 (by omega) (by omega)).symm.trans z)
      obtain ⟨w1, w2, c, w3, w4, w5, a, w6, w7, -, -, w8⟩ := wa'.2.2.2.2.2.2.2.2.2.2.2.2.1 (by omega)
      unfold fb_M_otherRun_328
      exact ok_bnd.mpr (ok_mono (i28 (N := N) ev hp' w1 w2 w3 w4 w5 w6 w7 w8 (by omega)) (fun y _ hy => ok_some.mpr (fin y hy)))
    · have n7 := of_decide_eq_false ((dk 7 (by omega) (by omega)).symm.trans z7)
      have n8 := of_decide_eq_false ((dk 8 (by omega) (by omega)).symm.trans z8)
      have n9 := of_decide_eq_false ((dk 9 (by omega) (by omega)).symm.trans z9)
      have n10 := of_decide_eq_false ((dk 10 (by omega) (by omega)).symm.trans z10)
      have n11 := of_decide_eq_false ((dk 11 (by omega) (by omega)).symm.trans z11)
      have n19 := of_decide_eq_false ((dk 19 (by omega) (by omega)).symm.trans z19)
      have n20 := of_decide_eq_false ((dk 20 (by omega) (by omega)).symm.trans z20)
      have n28 := of_decide_eq_false ((dk 28 (by omega) (by omega)).symm.trans z28)
      obtain ⟨w1, w2⟩ := wa'.2.2.2.2.2.2.2.2.2.2.2.2.2.2.1 (by omega)
      unfold fb_M_otherRun_328
      exact ok_some.mpr (fin v (nxtR ev nq w2 (FR.rf : FR [] [] [] [] v v) (by decide) (by decide) (by decide) h98 i FR.rf (OTF_fr (FR.rf : FR [] [] [] [] v v) (by decide))))
end
