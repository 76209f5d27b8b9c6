section
variable {Fv : Int64 → Int64 → Prop} {P : Int64 → Prop} {u v w w2 : MS} {PR N p n n2 opM bnM bxM bx2 ND fr k tp mu CN PN SN UN FN rq q m h mm : Nat} {ow kd ow2 kd2 ro rn rh cb pc ct pM pE : Nat → Nat} {T : TY} {C : CY}
theorem lst2 {a bs : Nat} (e : ERX Fv P PR T C ND CN p v fr ro rn rh cb pc ct q n ow kd opM bnM bxM mu) (hB : ro (fr - 1) + tB T q ≤ bs) (hb : bnM = rn (fr - 1) + rh (fr - 1) + mm) (hm : m < ND) (hx : NX T q m h mm) (hh : bs + 1 = ro (fr - 1) + h) (hc : bs < 46000) (h98 : A v 98 (60 * p + (fr - 1)) = ((m : Nat) : Int)) (hMn : mm = tM T q) (ha : a ≤ 1000) : ∀ k j w M nn ow2 kd2 f g t s c, j + k = a → k < M → FR [] [] [89, 92] [88] v w → OTF p v w → MEI Fv P PR w p nn ow2 kd2 (bs + k) bnM bxM → SZ (hp w p) nn ow2 kd2 Fv P f t s → (∀ i, i < k → SZ (hp w p) nn ow2 kd2 Fv P g (w.2.2.2 91 (46000 * p + (bs + i))) (c i)) → 2 * k + s + smm c 0 k ≤ 500 → nn + 2 * k ≤ 500 → OK (fun w2 _ => RES Fv P PR T C ND CN p mu v w2) ((gg_M_listRun N M).2 w (I a) t (I j)) := by
  intro k
  induction k with
  | zero =>
    intro j w M nn ow2 kd2 f g t s c hj hM fw o i zt zc hs hn
    obtain rfl : j = a := by omega
    obtain ⟨M, rfl⟩ : ∃ M', M = M' + 1 := ⟨M - 1, by omega⟩
    show OK _ (fb_M_listRun_94 N (gg_M_listRun N M) w (I j) t (I j))
    unfold fb_M_listRun_94
    rw [decI (by omega) (by omega) (by omega) (by omega), decide_eq_true (by omega), br_tq]
    have e2 := ERX_fr e fw (by decide) (by decide) (by decide) i (by omega) (by omega)
    exact ok_bnd.mpr (ok_mono (putR (N := N) e2 hm hx (by rw [FR.A fw (by decide)]; exact h98) (by omega) hb (SZ_gt zt) (by omega)) (fun y _ hy => ok_some.mpr (RES.pre fw o (by decide) (by decide) (by decide) (by decide) hy)))
  | succ k ih =>
    intro j w M nn ow2 kd2 f g t s c hj hM fw o i zt zc hs hn
    obtain ⟨M, rfl⟩ : ∃ M', M = M' + 1 := ⟨M - 1, by omega⟩
    have x4 := MEI_p i
    have om : bs + (k + 1) ≤ 46000 := i.2.2.2.2.2.2.2.2.2.1.2
    show OK _ (fb_M_listRun_94 N (gg_M_listRun N M) w (I a) t (I j))
    unfold fb_M_listRun_94
    rw [decI (by omega) (by omega) (by omega) (by omega), decide_eq_false (by omega), br_fq]
    have hs' : 2 * (k + 1) + s + (smm c 0 k + c (0 + k)) ≤ 500 := hs
    rw [Nat.zero_add] at hs'
    refine ok_bnd.mpr (ok_mono (take_ok (N := N) (opM := bs + k) i) (fun w3 r hw => ?_))
    obtain ⟨w1, w2', w3', w4⟩ := hw
    have f3 : FR [] [] [89, 92] [88] v w3 := by rw [w1]; exact FR.wa fw (by decide)
    have o3 : OTF p v w3 := OTF.tr o (OTF_at (show FR [] [] [92] [] w w3 from by rw [w1]; exact FR.wa FR.rf (by decide)) (i0 := p) (fun j hj => by rw [w1, A_eq (by omega) (by omega), if_neg hj]) (Or.inl ⟨by decide, rfl⟩))
    have hp3 : hp w3 p = hp w p := by rw [w1]; rfl
    have j91 : w3.2.2.2 91 = w.2.2.2 91 := by rw [w1]; rfl
    refine ok_bnd.mpr (ok_mono (pair_ok (N := N) (f := g + f) (sa := c k) (sb := s) (a := r) (b := t) w4 (by rw [hp3, w2']; exact SZ_le (zc k (by omega)) (by omega)) (by rw [hp3]; exact SZ_le zt (by omega)) (by omega) (by omega)) (fun v4 r4 hv => ?_))
    obtain ⟨f4, y1, ow3, kd3, f2, y2, y3, y4, y5⟩ := hv
    rw [y1, show (7 : Int32) = I 7 from rfl, term_e, bnd_so, lit1q, I_add, show (j : Int) + 1 = ((j + 1 : Nat) : Int) from by omega]
    refine ih (j + 1) v4 M (nn + 2) ow3 kd3 f2 g (mk 7 nn) (2 + c k + s) c (by omega) (by omega) (FR.tr f3 (FR.mo f4 (by decide) (by decide) (by decide) (by decide))) (OTF.tr o3 (OTF_fr f4 (by decide))) y2 y3 (fun i hi => ?_) (by omega) (by omega)
    rw [f4.2.2.2 91 (by decide), j91]
    exact y5 _ _ _ (by rw [hp3]; exact zc i (by omega))
theorem i5 {a b : Nat} (e : ERX Fv P PR T C ND CN p u fr ro rn rh cb pc ct q n ow kd (ro (fr - 1) + tH T q) (rn (fr - 1) + rh (fr - 1) + tM T q) bxM mu) (hp' : PGM Fv P PR T C pM pE ND CN PN SN UN FN u) (hq : tB T q + (a + b) ≤ tH T q) (ha : a ≤ 8) (hb1 : b ≤ 1) (hm : m < ND) (hx : NX T q m (tH T q + 1 - (a + b)) (tM T q)) (h98 : A u 98 (60 * p + (fr - 1)) = ((m : Nat) : Int)) (hN : 60000 ≤ N) : OK (fun v _ => RES Fv P PR T C ND CN p mu u v) (fm_M_listRun N u (I a) (I b)) := by
  have i := e.1
  have x4 := MEI_p i
  have hH := (hp'.1.2.2.1 q e.2.2.1).1.1
  have hf := e.2.1.1
  have hro := (e.2.1.2.2.1 (fr - 1) (by omega)).2.2.2.2.1
  obtain ⟨f0, c, hc⟩ := top_sz (a := a + b) i (by omega)
  have L1 : ∀ k j w M, j + k = a + b → k + a + 3 ≤ M → FR [] [] [] [141] u w → OK (fun v _ => RES Fv P PR T C ND CN p mu u v) ((gg_M_listRun N M).1 w (I a) (I b) (I ((2 * a + smm (cap c) 0 j : Nat) : Int)) (I j)) := by
    intro k
    induction k with
    | zero =>
      intro j w M hj hM f1
      obtain rfl : j = a + b := by omega
      obtain ⟨M, rfl⟩ : ∃ M', M = M' + 1 := ⟨M - 1, by omega⟩
      have cl := cap_le (c := c) (a + b)
      show OK _ (fb_M_listRun_7 N (gg_M_listRun N M) w (I a) (I b) (I ((2 * a + smm (cap c) 0 (a + b) : Nat) : Int)) (I ((a + b : Nat) : Int)))
      unfold fb_M_listRun_7
      have hpw : hp w p = hp u p := by unfold hp; rw [f1.2.2.2 88 (by decide)]
      have iw : MEI Fv P PR w p n ow kd (ro (fr - 1) + tH T q) (rn (fr - 1) + rh (fr - 1) + tM T q) bxM := MEI_fr i f1 (by decide) (by decide) (by decide) (by decide) (by decide) (by decide) (by decide) (by decide) (by decide) (by decide) (by decide) (by decide) (by decide) (by decide) (by decide) (by decide) (by decide) (by decide)
      have ew := ERX_fr e f1 (by decide) (by decide) (by decide) iw (by omega) (Nat.le_refl _)
      have o1 : OTF p u w := OTF_fr f1 (by decide)
      rw [I_add, decI (by omega) (by omega) (by omega) (by omega), decide_eq_true (by omega), br_tq, lit500, decI (by omega) (by omega) (by omega) (by omega)]
      refine ok_br.mpr ⟨fun z => ?_, fun _ => ok_bnd.mpr (ok_mono (err_ok (N := N) (a := 11) ew (PGM_fr hp' f1 (by decide) (by decide)) (by omega) hN) (fun y _ hy => ok_some.mpr (RES.pre f1 o1 (by decide) (by decide) (by decide) (by decide) hy)))⟩
      have z' : 2 * a + smm (cap c) 0 (a + b) ≤ 500 := by have := of_decide_eq_true z; omega
      rw [I_F' iw.2.2.1, show (2 : Int32) = I 2 from rfl, I_mul, show (2 : Int) * (a : Int) = ((2 * a : Nat) : Int) from by omega]
      refine ok_bnd.mpr (ok_mono (wantsE (N := N) ew (k := 2 * a) (by omega) hN) (fun v r hv => ?_))
      obtain ⟨n2, ow2, kd2, fd, v1, v2, v3, v4⟩ := hv
      have fu : FR [136, 138] [139] [89, 90, 135] [88, 91, 93, 107, 134, 137, 141] u v := FR.tr (FR.mo f1 (by decide) (by decide) (by decide) (by decide)) (FR.mo v2 (by decide) (by decide) (by decide) (by decide))
      have ou : OTF p u v := OTF_fr fu (by decide)
      have pre : ∀ y, RES Fv P PR T C ND CN p mu v y → RES Fv P PR T C ND CN p mu u y := fun y hy => RES.pre fu ou (by decide) (by decide) (by decide) (by decide) hy
      refine ok_br.mpr ⟨fun _ => ok_bnd.mpr (ok_mono (noRoomR (N := N) v1 hp'.2.1) (fun y _ hy => ok_some.mpr (pre y hy))), fun zr => ?_⟩
      have h5 : n2 + 2 * a ≤ 500 := by
        rcases v4 with ⟨-, y⟩ | y
        · exact y
        · exact absurd y (of_decide_eq_false zr)
      have sz : ∀ i, i < a + b → SZ (hp v p) n2 ow2 kd2 Fv P f0 (v.2.2.2 91 (46000 * p + (ro (fr - 1) + tH T q - (a + b) + i))) (c (a + b - 1 - i)) := fun i hi => by
        have h2 := hc (a + b - 1 - i) (by omega)
        have h3 := v3.2.2.1 (ro (fr - 1) + tH T q - (a + b) + i) f0 (c (a + b - 1 - i)) (by omega) (by rw [hpw, f1.2.2.2 91 (by decide)]; rw [show ro (fr - 1) + tH T q - (a + b) + i = ro (fr - 1) + tH T q - 1 - (a + b - 1 - i) from by omega]; exact h2)
        rw [v3.1 _ (by omega)]
        exact h3
      have sum : smm (fun i => c (a + b - 1 - i)) 0 (a + b) = smm (cap c) 0 (a + b) := by rw [smm_rev, cap_eq _ (by omega)]
      have h98v : A v 98 (60 * p + (fr - 1)) = ((m : Nat) : Int) := by rw [FR.A fu (by decide)]; exact h98
      rw [show (1 : Int32) = I 1 from rfl, decE (by omega) (by omega) (by omega) (by omega)]
      refine ok_br.mpr ⟨fun zb => ?_, fun zb => ?_⟩
      · obtain rfl : b = 1 := by have := of_decide_eq_true zb; omega
        have v1' := v1
        rw [show ro (fr - 1) + tH T q = ro (fr - 1) + tH T q - 1 + 1 from by omega] at v1'
        refine ok_bnd.mpr (ok_mono (take_ok (N := N) v1'.1) (fun w3 r hw => ?_))
        obtain ⟨w1, w2', w3', w4⟩ := hw
        have f3 : FR [] [] [92] [] v w3 := by rw [w1]; exact FR.wa FR.rf (by decide)
        have o3 : OTF p v w3 := OTF_at f3 (i0 := p) (fun j hj => by rw [w1, A_eq (by omega) (by omega), if_neg hj]) (Or.inl ⟨by decide, rfl⟩)
        have hp3 : hp w3 p = hp v p := by rw [w1]; rfl
        have j91 : w3.2.2.2 91 = v.2.2.2 91 := by rw [w1]; rfl
        unfold fb_M_listRun_89
        have sum' : smm (fun i => c (a + 1 - 1 - i)) 0 a + c (a + 1 - 1 - (0 + a)) = smm (cap c) 0 (a + 1) := sum
        have st := sz a (by omega)
        rw [show ro (fr - 1) + tH T q - (a + 1) + a = ro (fr - 1) + tH T q - 1 from by omega, ← w2'] at st
        rw [show (0 : Int32) = I ((0 : Nat) : Int) from rfl]
        rw [show ro (fr - 1) + tH T q - 1 = ro (fr - 1) + tH T q - (a + 1) + a from by omega] at w4
        refine ok_mono (lst2 (N := N) (a := a) (bs := ro (fr - 1) + tH T q - (a + 1)) (m := m) v1 (by omega) rfl hm hx (by omega) (by omega) h98v rfl (by omega) a 0 w3 M n2 ow2 kd2 f0 f0 r (c (a + 1 - 1 - a)) (fun i => c (a + 1 - 1 - i)) (by omega) (by omega) (FR.mo f3 (by decide) (by decide) (by decide) (by decide)) o3 w4 (by rw [hp3]; exact st) (fun i hi => by rw [hp3, j91]; exact sz i (by omega)) ?_ h5) (fun y _ hy => pre y hy)
        rw [Nat.zero_add] at sum'; omega
      · obtain rfl : b = 0 := by have := of_decide_eq_false zb; omega
        rw [show (6 : Int32) = I 6 from rfl, lit0q, term_e, bnd_so]
        unfold fb_M_listRun_89
        rw [show (0 : Int32) = I ((0 : Nat) : Int) from rfl]
        refine ok_mono (lst2 (N := N) (a := a) (bs := ro (fr - 1) + tH T q - a) (m := m) v1 (by omega) rfl hm hx (by omega) (by omega) h98v rfl (by omega) a 0 v M n2 ow2 kd2 1 f0 (mk 6 0) 0 (fun i => c (a + 0 - 1 - i)) (by omega) (by omega) FR.rf (OTF_fr (FR.rf : FR [] [] [] [] v v) (by decide)) (by rw [show ro (fr - 1) + tH T q - a + a = ro (fr - 1) + tH T q from by omega]; exact v1.1) (Or.inl ⟨nh_mk (by omega), hp'.2.1.2.2.2.2, rfl⟩) (fun i hi => sz i (by omega)) (by rw [show a = a + 0 from rfl]; rw [sum]; omega) h5) (fun y _ hy => pre y hy)
    | succ k ih =>
      intro j w M hj hM f1
      obtain ⟨M, rfl⟩ : ∃ M', M = M' + 1 := ⟨M - 1, by omega⟩
      have cl := cap_le (c := c) j
      have cl2 := cap_le (c := c) (j + 1)
      show OK _ (fb_M_listRun_7 N (gg_M_listRun N M) w (I a) (I b) (I ((2 * a + smm (cap c) 0 j : Nat) : Int)) (I j))
      unfold fb_M_listRun_7
      rw [I_add, decI (by omega) (by omega) (by omega) (by omega), decide_eq_false (by omega), br_fq]
      refine copyE i hc (by omega) (by omega) f1 hN (g := fun u13 r13 => (gg_M_listRun N M).1 u13 (I a) (I b) (I ((2 * a + smm (cap c) 0 j : Nat) : Int) + r13) (I j + 1)) (fun v fv => ?_)
      show OK _ ((gg_M_listRun N M).1 v (I a) (I b) (I ((2 * a + smm (cap c) 0 j : Nat) : Int) + I ((cap c j : Nat) : Int)) (I j + 1))
      rw [I_add, lit1q, I_add, show (j : Int) + 1 = ((j + 1 : Nat) : Int) from by omega, show ((2 * a + smm (cap c) 0 j : Nat) : Int) + ((cap c j : Nat) : Int) = ((2 * a + smm (cap c) 0 (j + 1) : Nat) : Int) from by
        show _ = ((2 * a + (smm (cap c) 0 j + cap c (0 + j)) : Nat) : Int)
        rw [Nat.zero_add]; omega]
      exact ih (j + 1) v M (by omega) (by omega) fv
  unfold fm_M_listRun fb_M_listRun_0
  rw [show (2 : Int32) = I 2 from rfl, I_mul, lit0q, show (0 : Int) = ((0 : Nat) : Int) from rfl, show (2 : Int) * (a : Int) = ((2 * a + smm (cap c) 0 0 : Nat) : Int) from by show _ = ((2 * a + 0 : Nat) : Int); omega]
  exact L1 (a + b) 0 u N (by omega) (by omega) FR.rf
theorem i2 {s : Nat} (e : ERX Fv P PR T C ND CN p u fr ro rn rh cb pc ct q n ow kd (ro (fr - 1) + tH T q) (rn (fr - 1) + rh (fr - 1) + tM T q) bxM mu) (hp' : PGM Fv P PR T C pM pE ND CN PN SN UN FN u) (hs : s < SN) (hm : m < ND) (hx : NX T q m (tH T q + 1) (tM T q)) (h98 : A u 98 (60 * p + (fr - 1)) = ((m : Nat) : Int)) (hN : 60000 ≤ N) : OK (fun v _ => RES Fv P PR T C ND CN p mu u v) (fm_M_stringRun N u (I s)) := by
  have i := e.1
  have x4 := MEI_p i
  have hH := (hp'.1.2.2.1 q e.2.2.1).1.1
  have hf := e.2.1.1
  have hro := (e.2.1.2.2.1 (fr - 1) (by omega)).2.2.2.2.1
  obtain ⟨s0, s1⟩ := hp'.1.2.1
  obtain ⟨s2, s3, s4⟩ := s1 s hs
  clear s1
  obtain ⟨L, hL⟩ : ∃ L : Nat, A u 19 (s + 1) - A u 19 s = (L : Int) := ⟨(A u 19 (s + 1) - A u 19 s).toNat, by omega⟩
  unfold fm_M_stringRun fb_M_stringRun_0
  rw [lit1q, I_add]
  refine ok_ck.mpr ⟨inb_at (k := 19) (n := 2002) rfl (by omega) (by omega) (by decide), ok_ck.mpr ⟨inb_at (k := 19) (n := 2002) rfl (by omega) (by omega) (by decide), ok_lt.mpr ?_⟩⟩
  rw [I_tn (x := (s : Int) + 1) (by omega) (by omega), show ((s : Int) + 1).toNat = s + 1 from by omega, I_tn (x := (s : Int)) (by omega) (by omega), Int.toNat_natCast, I_A (k := 19) (i := s + 1), I_A (k := 19) (i := s), I_sub, hL, I_F' i.2.2.1, show (2 : Int32) = I 2 from rfl, I_mul, show (2 : Int) * (L : Int) = ((2 * L : Nat) : Int) from by omega, I_sub]
  refine ok_bnd.mpr (ok_mono (wantsE (N := N) e (k := 2 * L) (by omega) hN) (fun v r hv => ?_))
  obtain ⟨n2, ow2, kd2, fd, v1, v2, v3, v4⟩ := hv
  have ou : OTF p u v := OTF_fr v2 (by decide)
  have pre : ∀ y, RES Fv P PR T C ND CN p mu v y → RES Fv P PR T C ND CN p mu u y := fun y hy => RES.pre v2 ou (by decide) (by decide) (by decide) (by decide) hy
  refine ok_br.mpr ⟨fun _ => ok_bnd.mpr (ok_mono (noRoomR (N := N) v1 hp'.2.1) (fun y _ hy => ok_some.mpr (pre y hy))), fun zr => ?_⟩
  have h5 : n2 + 2 * L ≤ 500 := by
    rcases v4 with ⟨-, y⟩ | y
    · exact y
    · exact absurd y (of_decide_eq_false zr)
  rw [show (6 : Int32) = I 6 from rfl, lit0q, term_e, bnd_so]
  have h98v : A v 98 (60 * p + (fr - 1)) = ((m : Nat) : Int) := by rw [FR.A v2 (by decide)]; exact h98
  have e19 : ∀ j, A v 19 j = A u 19 j := fun j => FR.A v2 (by decide)
  have lp : ∀ k w M nn ow2 kd2 f t sz, k < M → k ≤ L → FR [] [] [89] [88] v w → MEI Fv P PR w p nn ow2 kd2 (ro (fr - 1) + tH T q) (rn (fr - 1) + rh (fr - 1) + tM T q) bxM → SZ (hp w p) nn ow2 kd2 Fv P f t sz → 2 * k + sz ≤ 500 → nn + 2 * k ≤ 500 → OK (fun y _ => RES Fv P PR T C ND CN p mu v y) (gg_M_stringRun N M w (I s) t (I ((k : Int) - 1))) := by
    intro k
    induction k with
    | zero =>
      intro w M nn ow2 kd2 f t sz hM hk fw iw zt h1 h2
      obtain ⟨M, rfl⟩ : ∃ M', M = M' + 1 := ⟨M - 1, by omega⟩
      show OK _ (fb_M_stringRun_47 N (gg_M_stringRun N M) w (I s) t (I ((0 : Nat) - 1 : Int)))
      unfold fb_M_stringRun_47
      rw [lit0q, decL (by omega) (by omega) (by omega) (by omega), decide_eq_true (by omega), br_tq]
      have e2 := ERX_fr v1 fw (by decide) (by decide) (by decide) iw (by have := (hp'.1.2.2.1 q e.2.2.1).1.2.2.2.1; omega) (Nat.le_refl _)
      exact ok_bnd.mpr (ok_mono (putR (N := N) e2 hm hx (by rw [FR.A fw (by decide)]; exact h98v) (by omega) rfl (SZ_gt zt) (by omega)) (fun y _ hy => ok_some.mpr (RES.pre fw (OTF_fr fw (by decide)) (by decide) (by decide) (by decide) (by decide) hy)))
    | succ k ih =>
      intro w M nn ow2 kd2 f t sz hM hk fw iw zt h1 h2
      obtain ⟨M, rfl⟩ : ∃ M', M = M' + 1 := ⟨M - 1, by omega⟩
      show OK _ (fb_M_stringRun_47 N (gg_M_stringRun N M) w (I s) t (I (((k + 1 : Nat) : Int) - 1)))
      unfold fb_M_stringRun_47
      have w19 : A w 19 s = A u 19 s := by rw [FR.A fw (by decide), e19]
      rw [lit0q, decL (by omega) (by omega) (by omega) (by omega), decide_eq_false (by omega), br_fq]
      refine ok_ck.mpr ⟨inb_at (k := 19) (n := 2002) rfl (by omega) (by omega) (by decide), ?_⟩
      rw [I_tn (x := (s : Int)) (by omega) (by omega), Int.toNat_natCast, I_A' w19, I_add]
      refine ok_ck.mpr ⟨inb_at (k := 18) (n := 4002) rfl (by omega) (by omega) (by decide), ?_⟩
      rw [show I 0 = (0 : Int32) from rfl, term0_e, bnd_so]
      refine ok_bnd.mpr (ok_mono (pair_ok (N := N) (f := f) (sa := 0) (sb := sz) (b := t) iw (by
        cases f with
        | zero => exact zt.elim
        | succ f => exact Or.inl ⟨nh_mk (by omega), hp'.2.1.2.2.2.1 _ (ti_rng _).1 (ti_rng _).2, rfl⟩) zt (by omega) (by omega)) (fun v4 r4 hv => ?_))
      obtain ⟨f4, y1, ow3, kd3, f2, y2, y3, y4, y5⟩ := hv
      rw [y1, show (7 : Int32) = I 7 from rfl, term_e, bnd_so, litm1q, I_add, show ((k + 1 : Nat) : Int) - 1 + -1 = (k : Int) - 1 from by omega]
      exact ih v4 M (nn + 2) ow3 kd3 f2 (mk 7 nn) (2 + 0 + sz) (by omega) (by omega) (FR.tr fw f4) y2 y3 (by omega) (by omega)
  exact ok_mono (lp L v N n2 ow2 kd2 1 (mk 6 0) 0 (by omega) (Nat.le_refl _) FR.rf v1.1 (Or.inl ⟨nh_mk (by omega), hp'.2.1.2.2.2.2, rfl⟩) (by omega) h5) (fun y _ hy => pre y hy)
end
