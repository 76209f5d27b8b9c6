section
section
variable {Fv : Int64 → Int64 → Prop} {P : Int64 → Prop} {u v w w2 : MS} {PR N p n n2 opM bnM bxM bx2 ND fr k tp mu CN PN SN UN FN rq q m h mm : Nat} {ow kd ow2 kd2 ro rn rh cb pc ct pM pE : Nat → Nat} {T : TY} {C : CY}
theorem kn_all {g : Nat → Int} : ∀ k, (∀ i, i < k → g i = 0) → kn g k = k := by
  intro k
  induction k with
  | zero => intro _; rfl
  | succ k ih => intro h; rw [kn_s, ih (fun i hi => h i (by omega)), if_pos (h k (by omega))]
theorem kn_ext {g g2 : Nat → Int} : ∀ k, (∀ i, i < k → g i = g2 i) → kn g k = kn g2 k := by
  intro k
  induction k with
  | zero => intro _; rfl
  | succ k ih => intro h; rw [kn_s, kn_s, ih (fun i hi => h i (by omega)), h k (by omega)]
theorem LST_pre {h : Nat → Int64} : ∀ (a k : Nat) (x t : Int64), LST h a x t → k ≤ a → ∃ t', LST h k x t'
  | a, 0, x, t, l, _ => ⟨x, rfl⟩
  | 0, k + 1, x, t, l, hk => by omega
  | a + 1, k + 1, x, t, l, hk => by
    obtain ⟨t', l'⟩ := LST_pre a k _ t l.2 (by omega)
    exact ⟨t', l.1, l'⟩
theorem SZ_lst {h : Nat → Int64} {x : Int64} (g : HP h n ow kd Fv P) (gx : GT n ow kd P x) (h5 : so x ≠ 5) : ∃ f s, SZ h n ow kd Fv P f x s ∧ s ≤ 500 := by
  by_cases z : isH x
  · obtain ⟨f, s, a, b⟩ := g x z gx
    refine ⟨f, s, a, ?_⟩
    by_cases y : s ≤ 500
    · exact y
    · exact absurd (b (by omega)).1 h5
  · rcases gx with ⟨-, b⟩ | ⟨a, -⟩
    · exact ⟨1, 0, Or.inl ⟨z, b, rfl⟩, by omega⟩
    · exact absurd a z
theorem LST_so {h : Nat → Int64} {x t : Int64} {a : Nat} (l : LST h a x t) (h6 : so t = 6) : so x ≠ 5 := by
  cases a with
  | zero => rw [show x = t from l]; omega
  | succ a => have := l.1; omega
theorem nar0 : vp_nar .boolean 0 = I 0 := rfl
theorem nar1 : vp_nar .boolean 1 = I 1 := rfl
theorem joined_ok (e : ERX Fv P PR T C ND CN p u fr ro rn rh cb pc ct q n ow kd (ro (fr - 1) + tH T q) (rn (fr - 1) + rh (fr - 1) + tM T q) bxM mu) (hp' : PGM Fv P PR T C pM pE ND CN PN SN UN FN u) (hq : tB T q + 2 ≤ tH T q) (hm : m < ND) (hx : NX T q m (tH T q - 1) (tM T q)) (h98 : A u 98 (60 * p + (fr - 1)) = ((m : Nat) : Int)) (hN : 60000 ≤ N) : OK (fun v _ => RES Fv P PR T C ND CN p mu u v) (fm_M_joined N u) := by
  have i := e.1
  have x4 := MEI_p i
  have hH := (hp'.1.2.2.1 q e.2.2.1).1.1
  have hf := e.2.1.1
  have hro := (e.2.1.2.2.1 (fr - 1) (by omega)).2.2.2.2.1
  obtain ⟨f0, c, hc⟩ := top_sz (a := 2) i (by omega)
  have c1 := hc 1 (by omega)
  have c0 := hc 0 (by omega)
  rw [show ro (fr - 1) + tH T q - 1 - 1 = ro (fr - 1) + tH T q - 2 from by omega] at c1
  rw [show ro (fr - 1) + tH T q - 1 - 0 = ro (fr - 1) + tH T q - 1 from by omega] at c0
  have bad : ∀ w, FR [] [] [] [141] u w → OK (fun v _ => RES Fv P PR T C ND CN p mu u v) (fb_M_joined_52 N (gg_M_joined N N) w) := fun w fw => by
    unfold fb_M_joined_52
    have iw : MEI Fv P PR w p n ow kd (ro (fr - 1) + tH T q) (rn (fr - 1) + rh (fr - 1) + tM T q) bxM := MEI_fr i fw (by decide) (by decide) (by decide) (by decide) (by decide) (by decide) (by decide) (by decide) (by decide) (by decide) (by decide) (by decide) (by decide) (by decide) (by decide) (by decide) (by decide) (by decide)
    have ew := ERX_fr e fw (by decide) (by decide) (by decide) iw (by omega) (Nat.le_refl _)
    exact ok_bnd.mpr (ok_mono (err_ok (N := N) (a := 11) ew (PGM_fr hp' fw (by decide) (by decide)) (by omega) hN) (fun y _ hy => ok_some.mpr (RES.pre fw (OTF_fr fw (by decide)) (by decide) (by decide) (by decide) (by decide) hy)))
  obtain ⟨t1, g1⟩ := top_ok (N := N) (k := 1) i (by omega)
  rw [show ro (fr - 1) + tH T q - 1 - 1 = ro (fr - 1) + tH T q - 2 from by omega] at t1 g1
  unfold fm_M_joined fb_M_joined_0
  rw [lit1q, show (1 : Int) = ((1 : Nat) : Int) from rfl, t1, bnd_so]
  refine ok_bnd.mpr (ok_mono (lengthOf_ok (N := N) i g1 (by omega)) (fun v r hv => ?_))
  obtain ⟨v1, v2⟩ := hv
  subst v1
  rcases v2 with v2 | ⟨a, t, v2, l, h6, ha⟩
  · subst v2
    refine ok_br.mpr ⟨fun _ => bad _ FR.rf, fun z => absurd rfl (of_decide_eq_false z)⟩
  subst v2
  have lp : ∀ k j w M, j + k = a → k < M → FR [] [] [168] [141] v w → (∀ i, i < j → A w 168 i = 0) → (0 < a → c 1 + c 0 ≤ 500) → OK (fun y _ => RES Fv P PR T C ND CN p mu v y) (gg_M_joined N M w (I a) (I j)) := by
    intro k
    induction k with
    | zero =>
      intro j w M hj hM fw ha0 hs
      obtain rfl : j = a := by omega
      obtain ⟨M, rfl⟩ : ∃ M', M = M' + 1 := ⟨M - 1, by omega⟩
      show OK _ (fb_M_joined_61 N (gg_M_joined N M) w (I j) (I j))
      unfold fb_M_joined_61
      rw [decI (by omega) (by omega) (by omega) (by omega), decide_eq_true (by omega), br_tq, lt_e, lit0q, wi_e]
      have f2 : FR [169] [] [168] [141] v (wi w 169 0) := FR.wi (FR.mo fw (by decide) (by decide) (by decide) (by decide)) (by decide)
      have e9 : F (wi w 169 0) 169 = 0 := by rw [F_wi (by omega) (by omega), if_pos rfl]
      have e8 : ∀ i, i < j → A (wi w 169 0) 168 i = 0 := ha0
      generalize wi w 169 0 = w2 at *
      have hpw : hp w2 p = hp v p := by unfold hp; rw [f2.2.2.2 88 (by decide)]
      have j91 : w2.2.2.2 91 = v.2.2.2 91 := f2.2.2.2 91 (by decide)
      have iw : MEI Fv P PR w2 p n ow kd (ro (fr - 1) + tH T q) (rn (fr - 1) + rh (fr - 1) + tM T q) bxM := MEI_fr i f2 (by decide) (by decide) (by decide) (by decide) (by decide) (by decide) (by decide) (by decide) (by decide) (by decide) (by decide) (by decide) (by decide) (by decide) (by decide) (by decide) (by decide) (by decide)
      have ew := ERX_fr e f2 (by decide) (by decide) (by decide) iw (by omega) (Nat.le_refl _)
      have kk := kn_all (g := A w2 168) j e8
      rw [show (2 : Int32) = I 2 from rfl, I_mul, show (2 : Int) * (j : Int) = ((2 * j : Nat) : Int) from by omega]
      refine ok_bnd.mpr (ok_mono (anew_ok (N := N) (K := j) (a := j) (f := f0) (sl := c 1) (t := t) (m := m) ew (PGM_fr hp' f2 (by decide) (by decide)) hq hm hx (by rw [FR.A f2 (by decide)]; exact h98) hN ha kk.symm (by rw [hpw, j91]; exact l) (by rw [hpw, j91]; exact c1) (Or.inl ⟨e9, f0, c 0, by rw [hpw, j91]; exact c0, hs⟩)) (fun y _ hy => ok_some.mpr (RES.pre f2 (OTF_fr f2 (by decide)) (by decide) (by decide) (by decide) (by decide) hy)))
    | succ k ih =>
      intro j w M hj hM fw ha0 hs
      obtain ⟨M, rfl⟩ : ∃ M', M = M' + 1 := ⟨M - 1, by omega⟩
      show OK _ (fb_M_joined_61 N (gg_M_joined N M) w (I a) (I j))
      unfold fb_M_joined_61
      rw [decI (by omega) (by omega) (by omega) (by omega), decide_eq_false (by omega), br_fq]
      refine ok_ck.mpr ⟨inb_at (k := 168) (n := 500) rfl (by omega) (by omega) (by decide), ok_lt.mpr ?_⟩
      rw [I_tn (x := (j : Int)) (by omega) (by omega), Int.toNat_natCast, nar0, wa_e, lit1q, I_add, show (j : Int) + 1 = ((j + 1 : Nat) : Int) from by omega]
      refine ih (j + 1) _ M (by omega) (by omega) (FR.wa fw (by decide)) (fun i hi => ?_) hs
      rw [A_eq (by omega) (by omega)]
      by_cases zi : i = j
      · rw [if_pos zi]
      · rw [if_neg zi]; exact ha0 i (by omega)
  have go : ∀ w, FR [] [] [] [141] v w → (0 < a → c 1 + c 0 ≤ 500) → OK (fun y _ => RES Fv P PR T C ND CN p mu v y) (fb_M_joined_59 N (gg_M_joined N N) w (I a)) := fun w fw hs => by
    unfold fb_M_joined_59
    rw [show (0 : Int32) = I ((0 : Nat) : Int) from rfl]
    exact lp a 0 w N (by omega) (by omega) (FR.mo fw (by decide) (by decide) (by decide) (by decide)) (fun i hi => absurd hi (Nat.not_lt_zero i)) hs
  rw [I_neg, decE (by omega) (by omega) (by omega) (by omega), decide_eq_false (by omega), br_fq, lit0q, decI (by omega) (by omega) (by omega) (by omega)]
  refine ok_br.mpr ⟨fun z => go v FR.rf (fun y => by have := of_decide_eq_true z; omega), fun z => ?_⟩
  refine copyE i hc (j := 1) (by omega) (by omega) FR.rf hN (fun y1 fy1 => ?_)
  rw [show (0 : Int) = ((0 : Nat) : Int) from rfl]
  refine copyE i hc (j := 0) (by omega) (by omega) fy1 hN (fun y2 fy2 => ?_)
  have b1 : cap c 1 ≤ 501 := by unfold cap; split <;> omega
  have b0 : cap c 0 ≤ 501 := by unfold cap; split <;> omega
  rw [I_add, lit500, decI (by omega) (by omega) (by omega) (by omega)]
  refine ok_br.mpr ⟨fun z => go y2 fy2 (fun _ => ?_), fun z => bad y2 fy2⟩
  have z' := of_decide_eq_true z
  unfold cap at z'
  by_cases q1 : c 1 ≤ 500
  · by_cases q0 : c 0 ≤ 500
    · rw [if_pos q1, if_pos q0] at z'; omega
    · rw [if_pos q1, if_neg q0] at z'; omega
  · rw [if_neg q1] at z'; omega
theorem lessened_ok (e : ERX Fv P PR T C ND CN p u fr ro rn rh cb pc ct q n ow kd (ro (fr - 1) + tH T q) (rn (fr - 1) + rh (fr - 1) + tM T q) bxM mu) (hp' : PGM Fv P PR T C pM pE ND CN PN SN UN FN u) (hq : tB T q + 2 ≤ tH T q) (hm : m < ND) (hx : NX T q m (tH T q - 1) (tM T q)) (h98 : A u 98 (60 * p + (fr - 1)) = ((m : Nat) : Int)) (hN : 11000000 ≤ N) : OK (fun v _ => RES Fv P PR T C ND CN p mu u v) (fm_M_lessened N u) := by
  have i := e.1
  have x4 := MEI_p i
  have hH := (hp'.1.2.2.1 q e.2.2.1).1.1
  have hf := e.2.1.1
  have hro := (e.2.1.2.2.1 (fr - 1) (by omega)).2.2.2.2.1
  have hg := i.2.2.2.2.2.2.1
  have n500 : n ≤ 500 := i.2.2.2.2.2.2.2.1
  have bad : OK (fun v _ => RES Fv P PR T C ND CN p mu u v) (fb_M_lessened_30 N (gg_M_lessened N N) u) := by
    unfold fb_M_lessened_30
    exact ok_bnd.mpr (ok_mono (err_ok (N := N) (a := 11) e hp' (by omega) (by omega)) (fun y _ hy => ok_some.mpr hy))
  obtain ⟨t1, g1⟩ := top_ok (N := N) (k := 1) i (by omega)
  obtain ⟨t0, g0⟩ := top_ok (N := N) (k := 0) i (by omega)
  rw [show ro (fr - 1) + tH T q - 1 - 1 = ro (fr - 1) + tH T q - 2 from by omega] at t1 g1
  rw [show ro (fr - 1) + tH T q - 1 - 0 = ro (fr - 1) + tH T q - 1 from by omega] at t0 g0
  unfold fm_M_lessened fb_M_lessened_0
  rw [show (1 : Int32) = I ((1 : Nat) : Int) from rfl, show (0 : Int32) = I ((0 : Nat) : Int) from rfl, t1, bnd_so]
  refine ok_bnd.mpr (ok_mono (lengthOf_ok (N := N) i g1 (by omega)) (fun v r hv => ?_))
  obtain ⟨v1, v2⟩ := hv
  subst v1
  rw [t0, bnd_so]
  refine ok_bnd.mpr (ok_mono (lengthOf_ok (N := N) i g0 (by omega)) (fun v' r0 hv => ?_))
  obtain ⟨v1, v3⟩ := hv
  subst v1
  rcases v2 with v2 | ⟨a, tl, v2, la, h6, ha⟩
  · subst v2
    refine ok_br.mpr ⟨fun _ => bad, fun z => absurd rfl (of_decide_eq_false z)⟩
  subst v2
  rcases v3 with v3 | ⟨b, tr, v3, lb, h6b, hb⟩
  · subst v3
    refine ok_br.mpr ⟨fun _ => bad, fun _ => ok_br.mpr ⟨fun _ => bad, fun z => absurd rfl (of_decide_eq_false z)⟩⟩
  subst v3
  rw [I_neg, decE (by omega) (by omega) (by omega) (by omega), decide_eq_false (by omega), br_fq, decE (by omega) (by omega) (by omega) (by omega), decide_eq_false (by omega), br_fq]
  obtain ⟨fl, sl, zl, hsl⟩ := SZ_lst hg g1 (LST_so la h6)
  obtain ⟨fq, sq, zq⟩ := HP_sz hg g0
  have hpw : ∀ w, FR [] [] [168] [141] v' w → hp w p = hp v' p := fun w fw => by unfold hp; rw [fw.2.2.2 88 (by decide)]
  have w133 : ∀ w, FR [] [] [168] [141] v' w → F w 133 = p := fun w fw => by rw [FR.F fw (by decide)]; exact i.2.2.1
  have tops : ∀ w (j : Nat), FR [] [] [168] [141] v' w → j < 2 → fm_M_top N w (I j) = some (w, v'.2.2.2 91 (46000 * p + (ro (fr - 1) + tH T q - 1 - j))) := fun w j fw hj => by
    rw [top_e (w133 w fw) (opM := ro (fr - 1) + tH T q) (by rw [FR.A fw (by decide)]; exact i.2.2.2.2.2.2.2.2.2.1.1) x4 (by omega) (by omega), fw.2.2.2 91 (by decide)]
  have L4 : ∀ (k j V : Nat) (w : MS) (M : Nat), j + k = V → V ≤ a → k < M → FR [] [] [168] [141] v' w → OK (fun y _ => RES Fv P PR T C ND CN p mu v' y) ((gg_M_lessened N M).2.2.2 w (I ((V : Int) - 1)) (I ((kn (A w 168) j : Nat) : Int)) (I j)) := by
    intro k
    induction k with
    | zero =>
      intro j V w M hj hV hM fw
      obtain rfl : j = V := by omega
      obtain ⟨M, rfl⟩ : ∃ M', M = M' + 1 := ⟨M - 1, by omega⟩
      show OK _ (fb_M_lessened_222 N (gg_M_lessened N M) w (I ((j : Int) - 1)) (I ((kn (A w 168) j : Nat) : Int)) (I j))
      unfold fb_M_lessened_222
      rw [decL (by omega) (by omega) (by omega) (by omega), decide_eq_true (by omega), br_tq, lt_e, lit1q, wi_e]
      have f2 : FR [169] [] [168] [141] v' (wi w 169 1) := FR.wi (FR.mo fw (by decide) (by decide) (by decide) (by decide)) (by decide)
      have e9 : F (wi w 169 1) 169 = 1 := by rw [F_wi (by omega) (by omega), if_pos rfl]
      have e8 : A (wi w 169 1) 168 = A w 168 := rfl
      rw [← e8]
      generalize wi w 169 1 = w2 at *
      have hpw : hp w2 p = hp v' p := by unfold hp; rw [f2.2.2.2 88 (by decide)]
      have j91 : w2.2.2.2 91 = v'.2.2.2 91 := f2.2.2.2 91 (by decide)
      have iw : MEI Fv P PR w2 p n ow kd (ro (fr - 1) + tH T q) (rn (fr - 1) + rh (fr - 1) + tM T q) bxM := MEI_fr i f2 (by decide) (by decide) (by decide) (by decide) (by decide) (by decide) (by decide) (by decide) (by decide) (by decide) (by decide) (by decide) (by decide) (by decide) (by decide) (by decide) (by decide) (by decide)
      have ew := ERX_fr e f2 (by decide) (by decide) (by decide) iw (by omega) (Nat.le_refl _)
      obtain ⟨t', l'⟩ := LST_pre a j _ _ la hV
      rw [I_add, show (j : Int) - 1 + 1 = (j : Int) from by omega, show (2 : Int32) = I 2 from rfl, I_mul, show (2 : Int) * ((kn (A w2 168) j : Nat) : Int) = ((2 * kn (A w2 168) j : Nat) : Int) from by omega]
      exact ok_bnd.mpr (ok_mono (anew_ok (N := N) (K := kn (A w2 168) j) (a := j) (f := fl) (sl := sl) (t := t') (m := m) ew (PGM_fr hp' f2 (by decide) (by decide)) hq hm hx (by rw [FR.A f2 (by decide)]; exact h98) (by omega) (by omega) rfl (by rw [hpw, j91]; exact l') (by rw [hpw, j91]; exact zl) (Or.inr ⟨by rw [e9]; decide, fun _ => hsl⟩)) (fun y _ hy => ok_some.mpr (RES.pre f2 (OTF_fr f2 (by decide)) (by decide) (by decide) (by decide) (by decide) hy)))
    | succ k ih =>
      intro j V w M hj hV hM fw
      obtain ⟨M, rfl⟩ : ∃ M', M = M' + 1 := ⟨M - 1, by omega⟩
      have kl := kn_le (g := A w 168) j
      have kst := kn_s (g := A w 168) (k := j)
      show OK _ (fb_M_lessened_222 N (gg_M_lessened N M) w (I ((V : Int) - 1)) (I ((kn (A w 168) j : Nat) : Int)) (I j))
      unfold fb_M_lessened_222
      rw [decL (by omega) (by omega) (by omega) (by omega), decide_eq_false (by omega), br_fq]
      refine ok_ck.mpr ⟨inb_at (k := 168) (n := 500) rfl (by omega) (by omega) (by decide), ?_⟩
      have r168 := A_r w 168 j
      unfold fb_M_lessened_247
      rw [I_tn (x := (j : Int)) (by omega) (by omega), Int.toNat_natCast, I_A (k := 168), lit0q, decE r168.1 r168.2 (by omega) (by omega), lit1q, I_add, I_add, show (j : Int) + 1 = ((j + 1 : Nat) : Int) from by omega]
      have := ih (j + 1) V w M (by omega) hV (by omega) fw
      refine ok_br.mpr ⟨fun z => ?_, fun z => ?_⟩
      · rw [if_pos (of_decide_eq_true z)] at kst
        rw [show ((kn (A w 168) j : Nat) : Int) + 1 = ((kn (A w 168) (j + 1) : Nat) : Int) from by omega]
        exact this
      · rw [if_neg (of_decide_eq_false z)] at kst
        rw [show ((kn (A w 168) j : Nat) : Int) = ((kn (A w 168) (j + 1) : Nat) : Int) from by omega]
        exact this
  have L2 : ∀ (k j V : Nat) (w : MS) (M : Nat) (x : Int64) (f s : Nat), j + k = b → V ≤ a → k * (a + 4) + a + 10 ≤ M → FR [] [] [168] [141] v' w → LST (hp v' p) k x tr → SZ (hp v' p) n ow kd Fv P f x s → OK (fun y _ => RES Fv P PR T C ND CN p mu v' y) ((gg_M_lessened N M).2.1 w (I a) (I b) (I ((V : Int) - 1)) (I 0) x (I j)) := by
    intro k
    induction k with
    | zero =>
      intro j V w M x f s hj hV hM fw l z
      obtain rfl : j = b := by omega
      obtain ⟨M, rfl⟩ : ∃ M', M = M' + 1 := ⟨M - 1, by omega⟩
      show OK _ (fb_M_lessened_72 N (gg_M_lessened N M) w (I a) (I j) (I ((V : Int) - 1)) (I 0) x (I j))
      unfold fb_M_lessened_72
      rw [decI (by omega) (by omega) (by omega) (by omega), decide_eq_true (by omega), br_tq]
      exact L4 V 0 V w M (by omega) hV (by omega) fw
    | succ k ih =>
      intro j V w M x f s hj hV hM fw l z
      obtain ⟨M, rfl⟩ : ∃ M', M = M' + 1 := ⟨M - 1, by omega⟩
      obtain ⟨f', sa, sb, y1, y2, y3, y4, y5, y6, y7⟩ := LST_sz l z
      have hM' : k * (a + 4) + a + 10 + (a + 3) ≤ M := by rw [Nat.succ_mul] at hM; omega
      have inner : ∀ (kk jj V : Nat) (w : MS) (M : Nat) (xl : Int64) (f s fg : Nat), jj + kk = a → V ≤ a → k * (a + 4) + a + 10 + (kk + 1) ≤ M → FR [] [] [168] [141] v' w → LST (hp v' p) kk xl tl → SZ (hp v' p) n ow kd Fv P f xl s → fg ≤ 1 → OK (fun y _ => RES Fv P PR T C ND CN p mu v' y) ((gg_M_lessened N M).2.2.1 w (I a) (I b) (I ((V : Int) - 1)) (I 0) (hp v' p (vn x + 1)) (I j) (hp v' p (vn x)) xl (I jj) (I fg)) := by
        intro kk
        induction kk with
        | zero =>
          intro jj V w M xl f s fg hj2 hV hM fw l z hfg
          obtain rfl : jj = a := by omega
          obtain ⟨M, rfl⟩ : ∃ M', M = M' + 1 := ⟨M - 1, by omega⟩
          show OK _ (fb_M_lessened_123 N (gg_M_lessened N M) w (I jj) (I b) (I ((V : Int) - 1)) (I 0) (hp v' p (vn x + 1)) (I j) (hp v' p (vn x)) xl (I jj) (I fg))
          unfold fb_M_lessened_123 fb_M_lessened_213
          rw [decI (by omega) (by omega) (by omega) (by omega), decide_eq_true (by omega), br_tq, lit1q, I_add, show (j : Int) + 1 = ((j + 1 : Nat) : Int) from by omega]
          exact ih (j + 1) V w M _ f' sb (by omega) hV (by omega) fw y5 y3
        | succ kk ih2 =>
          intro jj V w M xl f s fg hj2 hV hM fw l z hfg
          obtain ⟨M, rfl⟩ : ∃ M', M = M' + 1 := ⟨M - 1, by omega⟩
          obtain ⟨f'', sa', sb', q1, q2, q3, q4, q5, q6, q7⟩ := LST_sz l z
          have hpw' := hpw w fw
          show OK _ (fb_M_lessened_123 N (gg_M_lessened N M) w (I a) (I b) (I ((V : Int) - 1)) (I 0) (hp v' p (vn x + 1)) (I j) (hp v' p (vn x)) xl (I jj) (I fg))
          have nxl : ∀ (w : MS) (V fg : Nat), V ≤ a → fg ≤ 1 → FR [] [] [168] [141] v' w → OK (fun y _ => RES Fv P PR T C ND CN p mu v' y) (fb_M_lessened_190 N (gg_M_lessened N M) w (I a) (I b) (I ((V : Int) - 1)) (I 0) (hp v' p (vn x + 1)) (I j) (hp v' p (vn x)) xl (I jj) (I fg)) := fun w V fg hV hfg fw => by
            unfold fb_M_lessened_190
            rw [valueOf_e, bnd_so, I_F' (w133 w fw), q6, lit1q, I_add, show (vn xl : Int) + 1 = ((vn xl + 1 : Nat) : Int) from by omega, cell_e (by omega) (by omega), bnd_so, I_add, show (jj : Int) + 1 = ((jj + 1 : Nat) : Int) from by omega, hpw w fw]
            exact ih2 (jj + 1) V w M _ f'' sb' fg (by omega) hV (by omega) fw q5 q3 hfg
          unfold fb_M_lessened_123
          have out : OK (fun y _ => RES Fv P PR T C ND CN p mu v' y) (fb_M_lessened_213 N (gg_M_lessened N M) w (I a) (I b) (I ((V : Int) - 1)) (I 0) (hp v' p (vn x + 1)) (I j)) := by
            unfold fb_M_lessened_213
            rw [lit1q, I_add, show (j : Int) + 1 = ((j + 1 : Nat) : Int) from by omega]
            exact ih (j + 1) V w M _ f' sb (by omega) hV (by omega) fw y5 y3
          rw [decI (by omega) (by omega) (by omega) (by omega), decide_eq_false (by omega), br_fq]
          refine ok_br.mpr ⟨fun _ => out, fun _ => ok_ck.mpr ⟨inb_at (k := 168) (n := 500) rfl (by omega) (by omega) (by decide), ok_br.mpr ⟨fun _ => ?_, fun _ => nxl w V fg hV hfg fw⟩⟩⟩
          rw [valueOf_e, bnd_so, I_F' (w133 w fw), q6, cell_e (by omega) (by omega), bnd_so, hpw']
          have hpg := PGM_fr hp' fw (by decide) (by decide)
          refine ok_bnd.mpr (ok_mono (order_ok (N := N) (Fv := Fv) (P := P) (n := n) (ow := ow) (kd := kd) n500 x4 hpg.2.2.1 hpg.2.2.2.1 hpg.2.2.2.2 (w133 w fw) (by rw [hpw']; exact hg) (SZ_gt q2) (SZ_gt y2) (by omega)) (fun w7 r7 f7 => ?_))
          have fw7 : FR [] [] [168] [141] v' w7 := FR.tr fw (FR.mo f7 (by decide) (by decide) (by decide) (by decide))
          refine ok_br.mpr ⟨fun _ => ok_ck.mpr ⟨inb_at (k := 168) (n := 500) rfl (by omega) (by omega) (by decide), ok_lt.mpr ?_⟩, fun _ => nxl w7 V fg hV hfg fw7⟩
          rw [I_tn (x := (jj : Int)) (by omega) (by omega), Int.toNat_natCast, nar1, wa_e]
          have fw8 : FR [] [] [168] [141] v' (wa w7 168 jj 1) := FR.wa fw7 (by decide)
          unfold fb_M_lessened_186
          rw [show (0 : Int32) = I ((0 : Nat) : Int) from rfl]
          refine ok_br.mpr ⟨fun _ => nxl _ V 0 hV (by omega) fw8, fun _ => ?_⟩
          have := nxl (wa w7 168 jj 1) (jj + 1) 0 (by omega) (by omega) fw8
          rw [show ((jj + 1 : Nat) : Int) - 1 = (jj : Int) from by omega] at this
          exact this
      show OK _ (fb_M_lessened_72 N (gg_M_lessened N M) w (I a) (I b) (I ((V : Int) - 1)) (I 0) x (I j))
      unfold fb_M_lessened_72
      rw [decI (by omega) (by omega) (by omega) (by omega), decide_eq_false (by omega), br_fq, valueOf_e, bnd_so, I_F' (w133 w fw), y6, cell_e (by omega) (by omega), bnd_so, valueOf_e, bnd_so, I_F' (w133 w fw), y6, show (1 : Int32) = I ((1 : Nat) : Int) from rfl, I_add, show (vn x : Int) + ((1 : Nat) : Int) = ((vn x + 1 : Nat) : Int) from by omega, cell_e (by omega) (by omega), bnd_so, tops w 1 fw (by omega), bnd_so, hpw w fw, show ro (fr - 1) + tH T q - 1 - 1 = ro (fr - 1) + tH T q - 2 from by omega]
      exact inner a 0 V w M _ fl sl 1 (by omega) hV (by omega) fw la zl (by omega)
  have L1 : ∀ (k j : Nat) (w : MS) (M : Nat), j + k = a → k + b * (a + 4) + a + 12 ≤ M → FR [] [] [168] [141] v' w → OK (fun y _ => RES Fv P PR T C ND CN p mu v' y) ((gg_M_lessened N M).1 w (I a) (I b) (I j)) := by
    intro k
    induction k with
    | zero =>
      intro j w M hj hM fw
      obtain rfl : j = a := by omega
      obtain ⟨M, rfl⟩ : ∃ M', M = M' + 1 := ⟨M - 1, by omega⟩
      show OK _ (fb_M_lessened_39 N (gg_M_lessened N M) w (I j) (I b) (I j))
      unfold fb_M_lessened_39
      rw [decI (by omega) (by omega) (by omega) (by omega), decide_eq_true (by omega), br_tq, show (0 : Int32) = I ((0 : Nat) : Int) from rfl, tops w 0 fw (by omega), bnd_so, show ro (fr - 1) + tH T q - 1 - 0 = ro (fr - 1) + tH T q - 1 from by omega]
      exact L2 b 0 0 w M _ fq sq (by omega) (by omega) (by omega) fw lb zq
    | succ k ih =>
      intro j w M hj hM fw
      obtain ⟨M, rfl⟩ : ∃ M', M = M' + 1 := ⟨M - 1, by omega⟩
      show OK _ (fb_M_lessened_39 N (gg_M_lessened N M) w (I a) (I b) (I j))
      unfold fb_M_lessened_39
      rw [decI (by omega) (by omega) (by omega) (by omega), decide_eq_false (by omega), br_fq]
      refine ok_ck.mpr ⟨inb_at (k := 168) (n := 500) rfl (by omega) (by omega) (by decide), ok_lt.mpr ?_⟩
      rw [I_tn (x := (j : Int)) (by omega) (by omega), Int.toNat_natCast, nar0, wa_e, lit1q, I_add, show (j : Int) + 1 = ((j + 1 : Nat) : Int) from by omega]
      exact ih (j + 1) _ M (by omega) (by omega) (FR.wa fw (by decide))
  refine L1 a 0 v' N (by omega) ?_ FR.rf
  have : b * (a + 4) ≤ 500 * 504 := Nat.mul_le_mul hb (by omega)
  omega
end
end
section
section
variable {Fv : Int64 → Int64 → Prop} {P : Int64 → Prop} {u v w w2 : MS} {PR N p n n2 opM bnM bxM bx2 ND fr k tp mu CN PN SN UN FN rq q m h mm : Nat} {ow kd ow2 kd2 ro rn rh cb pc ct pM pE : Nat → Nat} {T : TY} {C : CY}
theorem w64_0 {x : Int} (h1 : -2147483648 ≤ x) (h2 : x < 2147483648) (h0 : x ≠ 0) : (I x).toInt64 ≠ 0 := fun z => by
  have := congrArg Int64.toInt32 z
  rw [Int32.toInt32_toInt64] at this
  exact h0 ((I_eq h1 h2 (by omega) (by omega)).mp (this.trans (show (0 : Int64).toInt32 = I 0 from rfl)))
theorem i6 {a : Int} (e : ERX Fv P PR T C ND CN p u fr ro rn rh cb pc ct q n ow kd (ro (fr - 1) + tH T q) (rn (fr - 1) + rh (fr - 1) + tM T q) bxM mu) (hp' : PGM Fv P PR T C pM pE ND CN PN SN UN FN u) (hq : tB T q + 2 ≤ tH T q) (hm : m < ND) (hx : NX T q m (tH T q - 1) (tM T q)) (h98 : A u 98 (60 * p + (fr - 1)) = ((m : Nat) : Int)) (ha : 100 ≤ a ∨ (12 ≤ a ∧ a ≤ 20) ∨ a = 22 ∨ a = 23) (ha2 : a < 2147483648) (hN : 11000000 ≤ N) : OK (fun v _ => RES Fv P PR T C ND CN p mu u v) (fm_M_twoRun N u (I a)) := by
  have i := e.1
  have x4 := MEI_p i
  have hH := (hp'.1.2.2.1 q e.2.2.1).1.1
  have hf := e.2.1.1
  have hro := (e.2.1.2.2.1 (fr - 1) (by omega)).2.2.2.2.1
  have e' := e
  rw [show ro (fr - 1) + tH T q = ro (fr - 1) + (tH T q - 2) + 1 + 1 from by omega] at e'
  have two : ∀ (g : MS → Int64 → Int64 → Option (MS × Unit)), (∀ v t1 t2, ERX Fv P PR T C ND CN p v fr ro rn rh cb pc ct q n ow kd (ro (fr - 1) + (tH T q - 2)) (rn (fr - 1) + rh (fr - 1) + tM T q) bxM mu → GT n ow kd P t1 → GT n ow kd P t2 → FR [] [] [92] [] u v → OTF p u v → OK (fun y _ => RES Fv P PR T C ND CN p mu u y) (g v t1 t2)) → OK (fun y _ => RES Fv P PR T C ND CN p mu u y) (bnd (fm_M_take N u) (fun u7 r7 => bnd (fm_M_take N u7) (fun u8 r8 => g u8 r7 r8))) := fun g hg => by
    refine ok_bnd.mpr (ok_mono (takeE (N := N) e' (by omega)) (fun v r hv => ?_))
    obtain ⟨v1, v2, v3, v4⟩ := hv
    refine ok_bnd.mpr (ok_mono (takeE (N := N) v1 (by omega)) (fun w r2 hw => ?_))
    obtain ⟨w1, w2, w3, w4⟩ := hw
    exact hg w r r2 w1 v2 w2 (FR.tr v3 w3) (OTF.tr v4 w4)
  have pt : ∀ v t, ERX Fv P PR T C ND CN p v fr ro rn rh cb pc ct q n ow kd (ro (fr - 1) + (tH T q - 2)) (rn (fr - 1) + rh (fr - 1) + tM T q) bxM mu → GT n ow kd P t → FR [] [] [92] [141] u v → OTF p u v → OK (fun y _ => RES Fv P PR T C ND CN p mu u y) (bnd (fm_M_put N v t) (fun u2 _ => fb_M_twoRun_327 N () u2)) := fun v t ev gt fv ov => by
    unfold fb_M_twoRun_327
    exact ok_bnd.mpr (ok_mono (putR (N := N) ev hm hx (by rw [FR.A fv (by decide)]; exact h98) (by omega) rfl gt (by omega)) (fun y _ hy => ok_some.mpr (RES.pre fv ov (by decide) (by decide) (by decide) (by decide) hy)))
  have er : ∀ v, ERX Fv P PR T C ND CN p v fr ro rn rh cb pc ct q n ow kd (ro (fr - 1) + (tH T q - 2)) (rn (fr - 1) + rh (fr - 1) + tM T q) bxM mu → FR [] [] [92] [] u v → OTF p u v → OK (fun y _ => RES Fv P PR T C ND CN p mu u y) (fr_M_error N v 12) := fun v ev fv ov =>
    ok_mono (err_ok (N := N) (a := 12) ev (PGM_fr hp' fv (by decide) (by decide)) (by omega) (by omega)) (fun y _ hy => RES.pre fv ov (by decide) (by decide) (by decide) (by decide) hy)
  have X : 17 < a → OK (fun y _ => RES Fv P PR T C ND CN p mu u y) (fb_M_twoRun_147 N () u (I a)) := fun ha17 => by
    unfold fb_M_twoRun_147
    rw [show (22 : Int32) = I 22 from rfl, show (23 : Int32) = I 23 from rfl, show (100 : Int32) = I 100 from rfl, decE (by omega) (by omega) (by omega) (by omega), decE (by omega) (by omega) (by omega) (by omega), decL (by omega) (by omega) (by omega) (by omega)]
    refine ok_br.mpr ⟨fun _ => ?_, fun z22 => ok_br.mpr ⟨fun _ => ?_, fun z23 => ?_⟩⟩
    · unfold fb_M_twoRun_327
      exact ok_bnd.mpr (ok_mono (joined_ok (N := N) e hp' hq hm hx h98 (by omega)) (fun y _ hy => ok_some.mpr hy))
    · unfold fb_M_twoRun_327
      exact ok_bnd.mpr (ok_mono (lessened_ok (N := N) e hp' hq hm hx h98 hN) (fun y _ hy => ok_some.mpr hy))
    have z22' := of_decide_eq_false z22
    have z23' := of_decide_eq_false z23
    refine two (fun u8 r7 r8 => _) (fun v t1 t2 ev g1 g2 fv ov => ?_)
    have no : OK (fun y _ => RES Fv P PR T C ND CN p mu u y) (fb_M_twoRun_212 N () v) := by
      unfold fb_M_twoRun_212
      exact ok_bnd.mpr (ok_mono (er v ev fv ov) (fun y _ hy => ok_some.mpr hy))
    have y295 : ∀ t0 : Int64, OK (fun y _ => RES Fv P PR T C ND CN p mu u y) (fb_M_twoRun_295 N () v t0) := fun t0 => by
      unfold fb_M_twoRun_295
      rw [term0_e, bnd_so]
      refine ok_br.mpr ⟨fun _ => pt v _ ev (GT_int hp'.2.1) (FR.mo fv (by decide) (by decide) (by decide) (by decide)) ov, fun _ => ?_⟩
      unfold fb_M_twoRun_327
      exact ok_bnd.mpr (ok_mono (er v ev fv ov) (fun y _ hy => ok_some.mpr hy))
    have r1 := va_r t1
    have y219 : (a < 100 ∨ va t1 ≠ 0) → OK (fun y _ => RES Fv P PR T C ND CN p mu u y) (fb_M_twoRun_219 N () v (I a) t1 t2) := fun hz => by
      unfold fb_M_twoRun_219
      rw [valueOf_e, bnd_so, valueOf_e, bnd_so, show (18 : Int32) = I 18 from rfl, show (19 : Int32) = I 19 from rfl, show (20 : Int32) = I 20 from rfl, decE (by omega) (by omega) (by omega) (by omega), decE (by omega) (by omega) (by omega) (by omega), decE (by omega) (by omega) (by omega) (by omega)]
      refine ok_br.mpr ⟨fun _ => y295 _, fun z18 => ok_br.mpr ⟨fun _ => y295 _, fun z19 => ok_br.mpr ⟨fun _ => y295 _, fun z20 => ?_⟩⟩⟩
      have := of_decide_eq_false z18
      have := of_decide_eq_false z19
      have := of_decide_eq_false z20
      have nz := w64_0 r1.1 r1.2 (show va t1 ≠ 0 from by omega)
      exact ok_br.mpr ⟨fun _ => ok_ck.mpr ⟨decide_eq_true nz, y295 _⟩, fun _ => ok_ck.mpr ⟨decide_eq_true nz, y295 _⟩⟩
    show OK _ (bnd (fm_M_sortOf N v t2) _)
    rw [sortOf_e, bnd_so]
    refine ok_br.mpr ⟨fun _ => ?_, fun _ => no⟩
    rw [sortOf_e, bnd_so]
    refine ok_br.mpr ⟨fun _ => ok_br.mpr ⟨fun z => y219 (Or.inl (of_decide_eq_true z)), fun _ => ?_⟩, fun _ => no⟩
    rw [valueOf_e, bnd_so, lit0q, decE r1.1 r1.2 (by omega) (by omega)]
    exact ok_br.mpr ⟨fun _ => no, fun z => y219 (Or.inr (of_decide_eq_false z))⟩
  unfold fm_M_twoRun fb_M_twoRun_0
  rw [show (12 : Int32) = I 12 from rfl, show (17 : Int32) = I 17 from rfl, decL (by omega) (by omega) (by omega) (by omega), decL (by omega) (by omega) (by omega) (by omega)]
  refine ok_br.mpr ⟨fun z => by have := of_decide_eq_true z; omega, fun _ => ok_br.mpr ⟨fun z => X (of_decide_eq_true z), fun _ => ?_⟩⟩
  refine two (fun u17 r16 r17 => _) (fun v t1 t2 ev g1 g2 fv ov => ?_)
  show OK _ (bnd (fm_M_order N v t2 t1) _)
  have hpg := PGM_fr hp' fv (by decide) (by decide)
  refine ok_bnd.mpr (ok_mono (order_ok (N := N) (Fv := Fv) (P := P) (n := n) (ow := ow) (kd := kd) ev.1.2.2.2.2.2.2.2.1 x4 hpg.2.2.1 hpg.2.2.2.1 hpg.2.2.2.2 ev.1.2.2.1 ev.1.2.2.2.2.2.2.1 g2 g1 (by omega)) (fun w r fw => ?_))
  have fu : FR [] [] [92] [141] u w := FR.tr (FR.mo fv (by decide) (by decide) (by decide) (by decide)) (FR.mo fw (by decide) (by decide) (by decide) (by decide))
  have ou : OTF p u w := OTF.tr ov (OTF_fr fw (by decide))
  have iw := MEI_fr ev.1 fw (by decide) (by decide) (by decide) (by decide) (by decide) (by decide) (by decide) (by decide) (by decide) (by decide) (by decide) (by decide) (by decide) (by decide) (by decide) (by decide) (by decide) (by decide)
  have ew := ERX_fr ev fw (by decide) (by decide) (by decide) iw (by omega) (Nat.le_refl _)
  have p1 : OK (fun y _ => RES Fv P PR T C ND CN p mu u y) (fb_M_twoRun_138 N () w 1) := by
    unfold fb_M_twoRun_138
    rw [truth1, bnd_so]
    exact pt w _ ew (GT_atom hp'.2.1 (by omega)) fu ou
  have p0 : OK (fun y _ => RES Fv P PR T C ND CN p mu u y) (fb_M_twoRun_138 N () w 0) := by
    unfold fb_M_twoRun_138
    rw [truth0, bnd_so]
    exact pt w _ ew (GT_atom hp'.2.1 (by omega)) fu ou
  exact ok_br.mpr ⟨fun _ => ok_br.mpr ⟨fun _ => p1, fun _ => p0⟩, fun _ => ok_br.mpr ⟨fun _ => ok_br.mpr ⟨fun _ => p0, fun _ => p1⟩, fun _ => ok_br.mpr ⟨fun _ => ok_br.mpr ⟨fun _ => p0, fun _ => p1⟩, fun _ => ok_br.mpr ⟨fun _ => ok_br.mpr ⟨fun _ => p0, fun _ => p1⟩, fun _ => ok_br.mpr ⟨fun _ => ok_br.mpr ⟨fun _ => p0, fun _ => p1⟩, fun _ => ok_br.mpr ⟨fun _ => p0, fun _ => p1⟩⟩⟩⟩⟩⟩
end
end
section
section
variable {Fv : Int64 → Int64 → Prop} {P : Int64 → Prop} {u v w w2 : MS} {PR N p n n2 opM bnM bxM bx2 ND fr k tp mu CN PN SN UN FN rq q m h mm : Nat} {ow kd ow2 kd2 ro rn rh cb pc ct pM pE : Nat → Nat} {T : TY} {C : CY}
def nix (rn rh : Nat) (c : Int) : Nat := if 0 ≤ c then rn + (rh + c.toNat) else rn + (-2 - c).toNat
theorem nix_lt {rn rh m : Nat} {c : Int} (hc : (0 ≤ c ∧ c < m) ∨ (c ≤ -2 ∧ -2 - c < rh)) : nix rn rh c < rn + rh + m := by
  unfold nix
  split <;> omega
theorem frame0_x (h0 : F w 133 = p) (hp : p < 24) (h1 : A w 95 p = ((fr : Nat) : Int)) (h2 : 1 ≤ fr ∧ fr ≤ 60) : fm_M_frame0 N w = some (w, I ((60 * p + (fr - 1) : Nat) : Int)) := by
  unfold fm_M_frame0 fb_M_frame0_0
  rw [I_F' h0, inb_at (k := 95) (n := 24) rfl (by omega) (by omega) (by decide), ck_t, I_tn (x := (p : Int)) (by omega) (by omega), Int.toNat_natCast, I_A' h1, show (60 : Int32) = I 60 from rfl, I_mul, I_add, lit1q, I_sub, show (p : Int) * 60 + (fr : Int) - 1 = ((60 * p + (fr - 1) : Nat) : Int) from by omega]
theorem nameAt_e {rn rh m : Nat} {c : Int} (h0 : F w 133 = p) (hp : p < 24) (h1 : A w 95 p = ((fr : Nat) : Int)) (h2 : 1 ≤ fr ∧ fr ≤ 60) (f4 : A w 99 (60 * p + (fr - 1)) = ((rn : Nat) : Int)) (f5 : A w 101 (60 * p + (fr - 1)) = ((rh : Nat) : Int)) (hb : rn + rh + m ≤ 2500) (hc : (0 ≤ c ∧ c < m) ∨ (c ≤ -2 ∧ -2 - c < rh)) : fm_M_nameAt N w (I c) = some (w, w.2.2.2 93 (2500 * p + nix rn rh c)) := by
  unfold fm_M_nameAt fb_M_nameAt_0 fb_M_nameAt_43 nix
  rw [frame0_x h0 hp h1 h2, bnd_so, inb_at (k := 99) (n := 1440) rfl (by omega) (by omega) (by decide), ck_t, lit0q, decI (by omega) (by omega) (by omega) (by omega), I_tn (x := ((60 * p + (fr - 1) : Nat) : Int)) (by omega) (by omega), Int.toNat_natCast, I_A' f4, I_F' h0, show (2500 : Int32) = I 2500 from rfl, I_mul, I_add, show isK 93 5 = true from by decide, ck_t, ck_t]
  by_cases e : 0 ≤ c
  · rw [decide_eq_true e, br_tq, inb_at (k := 101) (n := 1440) rfl (by omega) (by omega) (by decide), ck_t, I_A' f5, I_add, I_add, inb_at (k := 93) (n := 60000) rfl (by omega) (by omega) (by decide), ck_t, I_tn (by omega) (by omega), if_pos e]
    rw [show ((p : Int) * 2500 + (rn : Int) + ((rh : Int) + c)).toNat = 2500 * p + (rn + (rh + c.toNat)) from by omega]
  · rw [decide_eq_false e, br_fq, show (-2 : Int32) = I (-2) from rfl, I_sub, I_add, inb_at (k := 93) (n := 60000) rfl (by omega) (by omega) (by decide), ck_t, I_tn (by omega) (by omega), if_neg e]
    rw [show ((p : Int) * 2500 + (rn : Int) + (-2 - c)).toNat = 2500 * p + (rn + (-2 - c).toNat) from by omega]
theorem nameAt_x {is ls as js : List Nat} {c : Int} (e : ERX Fv P PR T C ND CN p u fr ro rn rh cb pc ct q n ow kd opM bnM bxM mu) (f : FR is ls as js u w) (h133 : 133 ∉ is) (h95 : 95 ∉ as) (h99 : 99 ∉ as) (h101 : 101 ∉ as) (hc : NCO c (tM T q) (tL T q)) : fm_M_nameAt N w (I c) = some (w, w.2.2.2 93 (2500 * p + nix (rn (fr - 1)) (rh (fr - 1)) c)) ∧ nix (rn (fr - 1)) (rh (fr - 1)) c < bnM := by
  have hf := e.2.1.1
  have hro := (e.2.1.2.2.1 (fr - 1) (by omega))
  have hl := e.2.2.2.1
  have b8 := e.2.2.2.2.2.2.2.1
  have bb : bnM ≤ 2500 := e.1.2.2.2.2.2.2.2.2.2.2.1.2
  unfold NCO at hc
  rw [← hl] at hc
  have := nix_lt (rn := rn (fr - 1)) hc
  exact ⟨nameAt_e (m := tM T q) (by rw [FR.F f h133]; exact e.1.2.2.1) (MEI_p e.1) (by rw [FR.A f h95]; exact hf.2.2) ⟨hf.1, hf.2.1⟩ (by rw [FR.A f h99]; exact hro.2.1) (by rw [FR.A f h101]; exact hro.2.2.1) (by omega) hc, by omega⟩
set_option maxRecDepth 100000 in
theorem fun2 {h x b0 : Nat} {v3 : Int32} {a0 : Int64} (e : ERX Fv P PR T C ND CN p v fr ro rn rh cb pc ct q n ow kd opM bnM bxM mu) (hH : tH T q ≤ 760) (hm : m < ND) (hx : NX T q m (tH T q + 1) (tM T q)) (h98 : A v 98 (60 * p + (fr - 1)) = ((m : Nat) : Int)) (ho : opM = ro (fr - 1) + tH T q) (hb : bnM = rn (fr - 1) + rh (fr - 1) + tM T q) (hh : h ≤ 40) (hv : 0 < h → v3 = I x ∧ x < 1400 ∧ A v 55 x = ((b0 : Nat) : Int) ∧ b0 + h ≤ 24000) (hnc : ∀ j, j < h → NCO (A v 57 (b0 + j)) (tM T q) (tL T q)) (hF : ∀ b, va b = h → Fv a0 b) (h5 : n + (2 + h) ≤ 500)
    (hs : ∀ f c, (∀ j, j < h → SZ (hp v p) n ow kd Fv P f (v.2.2.2 93 (2500 * p + nix (rn (fr - 1)) (rh (fr - 1)) (A v 57 (b0 + j)))) (c j)) → 2 + h + smm c 0 h ≤ 500) : ∀ k j w M, j + k = h → k < M → FR [] [] [89] [88] v w → (∀ z, A w 89 z = if z = p then ((n + (2 + h) : Nat) : Int) else A v 89 z) → hp w p n = a0 → hp w p (n + 1) = (I h).toInt64 → (∀ i, i < j → hp w p (n + (2 + i)) = v.2.2.2 93 (2500 * p + nix (rn (fr - 1)) (rh (fr - 1)) (A v 57 (b0 + i)))) → (∀ i, ¬ (500 * p + n ≤ i ∧ i < 500 * p + n + (2 + h)) → w.2.2.2 88 i = v.2.2.2 88 i) → OK (fun w2 _ => RES Fv P PR T C ND CN p mu v w2) ((gg_M_funRun N M).2 w v3 (I h) (I n) (I j)) := by
  have i := e.1
  have x4 := MEI_p i
  have hf := e.2.1.1
  have hro := (e.2.1.2.2.1 (fr - 1) (by omega)).2.2.2.2.1
  have hBq := e.2.2.2.2.2.2.1
  obtain ⟨m1, m2, m3, m4, m5, ⟨x1, x2, x3, x4', x5, x6, x7, x8, x9, x10, x11⟩⟩ := id i
  intro k
  induction k with
  | zero =>
    intro j w M hj hM f h89 c0 c1 cj out
    obtain rfl : j = h := by omega
    obtain ⟨M, rfl⟩ : ∃ M', M = M' + 1 := ⟨M - 1, by omega⟩
    show OK _ (fb_M_funRun_202 N (gg_M_funRun N M) w v3 (I j) (I n) (I j))
    unfold fb_M_funRun_202
    rw [decI (by omega) (by omega) (by omega) (by omega), decide_eq_true (by omega), br_tq, show (3 : Int32) = I 3 from rfl, term_e, bnd_so]
    have e5 : so (mk 3 (n : Int)) = 3 := so_mk (by omega) (by omega)
    have v5 : va (mk 3 (n : Int)) = n := va_mk (by omega) (by omega)
    have n5 : vn (mk 3 (n : Int)) = n := by unfold vn; rw [v5]; omega
    have vc : va (I (j : Int)).toInt64 = (j : Int) := by rw [va_w, I_ti (by omega) (by omega)]
    have bb : blk (hp w p) (mk 3 (n : Int)) = 2 + j := by unfold blk; rw [e5, n5, c1]; simp; unfold vn; rw [vc]; omega
    have pp : prt (mk 3 (n : Int)) = 2 := by unfold prt; rw [e5]; rfl
    have cc : ∀ i, 2 ≤ i → i < 2 + j → hp w p (n + i) = v.2.2.2 93 (2500 * p + nix (rn (fr - 1)) (rh (fr - 1)) (A v 57 (b0 + (i - 2)))) := fun i h1 h2 => by
      have := cj (i - 2) (by omega)
      rw [show 2 + (i - 2) = i from by omega] at this
      exact this
    obtain ⟨ow2, kd2, r1, r2, r3, -⟩ := MEI_alloc (m := 2 + j) (x := mk 3 (n : Int)) i f h89 h5 out (Or.inl e5) (by omega) n5 bb (fun e => by omega) (fun _ => by rw [c1, c0]; exact ⟨by omega, hF _ vc⟩) (fun i h1 h2 => by rw [pp] at h1; rw [cc i h1 h2]; exact x9 _ (nameAt_x (N := N) e (FR.rf : FR [] [] [] [] v v) (by decide) (by decide) (by decide) (by decide) (hnc (i - 2) (by omega))).2) (Or.inr (fun f2 c hc => by
      rw [pp]
      have := hs f2 (fun i => c (2 + i)) (fun i hi => by have := hc (2 + i) (by rw [pp]; omega) (by omega); rw [cj i hi] at this; exact this)
      rw [smm_ext (c := c) (a := 2) (d := fun i => c (2 + i)) (b := 0) (2 + j - 2) (fun i _ => by show c (2 + i) = c (2 + (0 + i)); rw [Nat.zero_add]), show 2 + j - 2 = j from by omega]
      exact this))
    have e2 := ERX_fr e f (by decide) (by decide) (by decide) r1 (by omega) (by omega)
    exact ok_bnd.mpr (ok_mono (putR (N := N) e2 hm hx (by rw [FR.A f (by decide)]; exact h98) (by omega) hb r2 (by omega)) (fun y _ hy => ok_some.mpr (RES.pre f (OTF_fr f (by decide)) (by decide) (by decide) (by decide) (by decide) hy)))
  | succ k ih =>
    intro j w M hj hM f h89 c0 c1 cj out
    obtain ⟨M, rfl⟩ : ∃ M', M = M' + 1 := ⟨M - 1, by omega⟩
    obtain ⟨hv1, hv2, hv3, hv4⟩ := hv (by omega)
    have nm := (nameAt_x (N := N) e f (by decide) (by decide) (by decide) (by decide) (hnc j (by omega))).1
    show OK _ (fb_M_funRun_202 N (gg_M_funRun N M) w v3 (I h) (I n) (I j))
    unfold fb_M_funRun_202
    have w133 : F w 133 = p := by rw [FR.F f (by decide)]; exact m3
    have w55 : A w 55 x = ((b0 : Nat) : Int) := by rw [FR.A f (by decide)]; exact hv3
    rw [decI (by omega) (by omega) (by omega) (by omega), decide_eq_false (by omega), br_fq, hv1, inb_at (k := 55) (n := 1400) rfl (by omega) (by omega) (by decide), ck_t, I_tn (x := (x : Int)) (by omega) (by omega), Int.toNat_natCast, I_A' w55, I_add, inb_at (k := 57) (n := 24000) rfl (by omega) (by omega) (by decide), ck_t, I_tn (x := (b0 : Int) + (j : Int)) (by omega) (by omega), show ((b0 : Int) + (j : Int)).toNat = b0 + j from by omega, I_A' (show A w 57 (b0 + j) = A v 57 (b0 + j) from FR.A f (by decide)), nm, bnd_so, I_F' w133, lit500, I_mul, I_add, show (2 : Int32) = I 2 from rfl, I_add, I_add, inb_at (k := 88) (n := 12500) rfl (by omega) (by omega) (by decide), ck_t, lt_e, I_tn (by omega) (by omega), show ((p : Int) * 500 + (n : Int) + 2 + (j : Int)).toNat = 500 * p + (n + (2 + j)) from by omega, wj_e, lit1q, I_add, show (j : Int) + 1 = ((j + 1 : Nat) : Int) from by omega, f.2.2.2 93 (by decide)]
    rw [← hv1]
    refine ih (j + 1) _ M (by omega) (by omega) (FR.wj f (by decide)) h89 (by rw [hp_wj, if_neg (by omega)]; exact c0) (by rw [hp_wj, if_neg (by omega)]; exact c1) (fun i hi => ?_) (fun i hi => by rw [J_wj, if_pos rfl, if_neg (by omega)]; exact out i hi)
    rw [hp_wj]
    by_cases z : i = j
    · subst z; rw [if_pos rfl]
    · rw [if_neg (by omega)]; exact cj i (by omega)
def FVW (Fv : Int64 → Int64 → Prop) (w : MS) (UN FN : Nat) : Prop := (∀ f : Nat, f < FN → ∀ b, va b = 0 → Fv (-1 - (I f).toInt64) b) ∧ (∀ x : Nat, x < UN → ∀ b, va b = A w 54 x → Fv (I x).toInt64 b) ∧ ∀ a b, Fv a b → (∃ f : Nat, f < FN ∧ a = -1 - (I f).toInt64 ∧ va b = 0) ∨ ∃ x : Nat, x < UN ∧ a = (I x).toInt64 ∧ va b = A w 54 x
set_option maxRecDepth 100000 in
theorem funC {h x b0 : Nat} {v3 : Int32} {kk : Int} (e : ERX Fv P PR T C ND CN p u fr ro rn rh cb pc ct q n ow kd (ro (fr - 1) + tH T q) (rn (fr - 1) + rh (fr - 1) + tM T q) bxM mu) (hp' : PGM Fv P PR T C pM pE ND CN PN SN UN FN u) (hm : m < ND) (hx : NX T q m (tH T q + 1) (tM T q)) (h98 : A u 98 (60 * p + (fr - 1)) = ((m : Nat) : Int)) (hN : 60000 ≤ N) (hkk : kk = 14 ∨ kk = 15) (hh : h ≤ 40) (hv : 0 < h → v3 = I x ∧ x < 1400 ∧ A u 55 x = ((b0 : Nat) : Int) ∧ b0 + h ≤ 24000) (hnc : ∀ j, j < h → NCO (A u 57 (b0 + j)) (tM T q) (tL T q)) (hF1 : kk = 15 → ∀ b, va b = h → Fv (-1 - (u.2.2.1 27 q).toInt64) b) (hF2 : kk ≠ 15 → ∀ b, va b = h → Fv v3.toInt64 b) : OK (fun v _ => RES Fv P PR T C ND CN p mu u v) ((gg_M_funRun N N).1 u (I q) (I kk) v3 (I h) (I ((2 + h : Nat) : Int)) (I ((0 : Nat) : Int))) := by
  have i := e.1
  have x4 := MEI_p i
  have nd := hp'.1.1.1
  have qn := e.2.2.1
  have hH := (hp'.1.2.2.1 q qn).1.1
  have hMM := (hp'.1.2.2.1 q qn).1.2.1
  have hBB := (hp'.1.2.2.1 q qn).1.2.2.2.1
  have hf := e.2.1.1
  have hro := (e.2.1.2.2.1 (fr - 1) (by omega)).2.2.2.2.1
  have hg := i.2.2.2.2.2.2.1
  have n500 : n ≤ 500 := i.2.2.2.2.2.2.2.1
  have x9 := i.2.2.2.2.2.2.2.2.2.2.2.2.2.1
  have nmb : ∀ j, j < h → nix (rn (fr - 1)) (rh (fr - 1)) (A u 57 (b0 + j)) < rn (fr - 1) + rh (fr - 1) + tM T q := fun j hj => (nameAt_x (N := N) e (FR.rf : FR [] [] [] [] u u) (by decide) (by decide) (by decide) (by decide) (hnc j hj)).2
  obtain ⟨f0, c, hc⟩ := SZ_all (h := hp u p) (n := n) (ow := ow) (kd := kd) (Fv := Fv) (P := P) (m := h) (q := fun j => u.2.2.2 93 (2500 * p + nix (rn (fr - 1)) (rh (fr - 1)) (A u 57 (b0 + j)))) (fun j hj => HP_sz hg (x9 _ (nmb j hj)))
  have L1 : ∀ k j w M, j + k = h → k + h + 3 ≤ M → FR [] [] [] [141] u w → OK (fun v _ => RES Fv P PR T C ND CN p mu u v) ((gg_M_funRun N M).1 w (I q) (I kk) v3 (I h) (I ((2 + h + smm (cap c) 0 j : Nat) : Int)) (I j)) := by
    intro k
    induction k with
    | zero =>
      intro j w M hj hM f1
      obtain rfl : j = h := by omega
      obtain ⟨M, rfl⟩ : ∃ M', M = M' + 1 := ⟨M - 1, by omega⟩
      have cl := cap_le (c := c) j
      show OK _ (fb_M_funRun_34 N (gg_M_funRun N M) w (I q) (I kk) v3 (I j) (I ((2 + j + smm (cap c) 0 j : Nat) : Int)) (I j))
      unfold fb_M_funRun_34
      have hpw : hp w p = hp u p := by unfold hp; rw [f1.2.2.2 88 (by decide)]
      have iw : MEI Fv P PR w p n ow kd (ro (fr - 1) + tH T q) (rn (fr - 1) + rh (fr - 1) + tM T q) bxM := MEI_fr i f1 (by decide) (by decide) (by decide) (by decide) (by decide) (by decide) (by decide) (by decide) (by decide) (by decide) (by decide) (by decide) (by decide) (by decide) (by decide) (by decide) (by decide) (by decide)
      have ew := ERX_fr e f1 (by decide) (by decide) (by decide) iw (by omega) (Nat.le_refl _)
      have o1 : OTF p u w := OTF_fr f1 (by decide)
      rw [decI (by omega) (by omega) (by omega) (by omega), decide_eq_true (by omega), br_tq, lit500, decI (by omega) (by omega) (by omega) (by omega)]
      refine ok_br.mpr ⟨fun z => ?_, fun _ => ok_bnd.mpr (ok_mono (err_ok (N := N) (a := 11) ew (PGM_fr hp' f1 (by decide) (by decide)) (by omega) hN) (fun y _ hy => ok_some.mpr (RES.pre f1 o1 (by decide) (by decide) (by decide) (by decide) hy)))⟩
      have z' : 2 + j + smm (cap c) 0 j ≤ 500 := by have := of_decide_eq_true z; omega
      rw [I_F' iw.2.2.1, show (2 : Int32) = I 2 from rfl, I_add, show (2 : Int) + (j : Int) = ((2 + j : Nat) : Int) from by omega]
      refine ok_bnd.mpr (ok_mono (wantsE (N := N) ew (k := 2 + j) (by omega) hN) (fun v r hv' => ?_))
      obtain ⟨n2, ow2, kd2, fd, v1, v2, v3', v4⟩ := hv'
      have fu : FR [136, 138] [139] [89, 90, 135] [88, 91, 93, 107, 134, 137, 141] u v := FR.tr (FR.mo f1 (by decide) (by decide) (by decide) (by decide)) (FR.mo v2 (by decide) (by decide) (by decide) (by decide))
      have ou : OTF p u v := OTF_fr fu (by decide)
      have pre : ∀ y, RES Fv P PR T C ND CN p mu v y → RES Fv P PR T C ND CN p mu u y := fun y hy => RES.pre fu ou (by decide) (by decide) (by decide) (by decide) hy
      refine ok_br.mpr ⟨fun _ => ok_bnd.mpr (ok_mono (noRoomR (N := N) v1 hp'.2.1) (fun y _ hy => ok_some.mpr (pre y hy))), fun zr => ?_⟩
      have h5 : n2 + (2 + j) ≤ 500 := by
        rcases v4 with ⟨-, y⟩ | y
        · exact y
        · exact absurd y (of_decide_eq_false zr)
      have v89 := v1.1.2.2.2.2.1
      have v133 := v1.1.2.2.1
      rw [I_F' v133]
      refine ok_ck.mpr ⟨inb_at (k := 89) (n := 25) rfl (by omega) (by omega) (by decide), ok_lt.mpr (ok_ck.mpr ⟨inb_at (k := 89) (n := 25) rfl (by omega) (by omega) (by decide), ok_ck.mpr ⟨inb_at (k := 89) (n := 25) rfl (by omega) (by omega) (by decide), ok_lt.mpr ?_⟩⟩)⟩
      rw [I_tn (x := (p : Int)) (by omega) (by omega), Int.toNat_natCast, I_A' v89, I_add, show (n2 : Int) + ((2 + j : Nat) : Int) = ((n2 + (2 + j) : Nat) : Int) from by omega, wa_e]
      have e57 : ∀ z, A v 57 z = A u 57 z := fun z => FR.A fu (by decide)
      have e27 : v.2.2.1 27 = u.2.2.1 27 := fu.2.2.1 27 (by decide)
      have last : ∀ a0 : Int64, (∀ b, va b = j → Fv a0 b) → OK (fun y _ => RES Fv P PR T C ND CN p mu u y) (fb_M_funRun_177 N (gg_M_funRun N M) (wa v 89 p ((n2 + (2 + j) : Nat) : Int)) v3 (I j) (I n2) 88 ((wa v 89 p ((n2 + (2 + j) : Nat) : Int)).1 133 * I 500 + I n2) a0) := fun a0 ha0 => by
        unfold fb_M_funRun_177
        rw [show isK 88 5 = true from by decide, ck_t, show (wa v 89 p ((n2 + (2 + j) : Nat) : Int)).1 133 = I p from I_F' v133, I_mul, I_add]
        refine ok_ck.mpr ⟨inb_at (k := 88) (n := 12500) rfl (by omega) (by omega) (by decide), ok_lt.mpr ?_⟩
        rw [I_tn (by omega) (by omega), show ((p : Int) * 500 + (n2 : Int)).toNat = 500 * p + n2 from by omega, wj_e, show (wj (wa v 89 p ((n2 + (2 + j) : Nat) : Int)) 88 (500 * p + n2) a0).1 133 = I p from I_F' v133, lit500, I_mul, I_add, lit1q, I_add]
        refine ok_ck.mpr ⟨inb_at (k := 88) (n := 12500) rfl (by omega) (by omega) (by decide), ok_lt.mpr ?_⟩
        rw [I_tn (by omega) (by omega), show ((p : Int) * 500 + (n2 : Int) + 1).toNat = 500 * p + (n2 + 1) from by omega, wj_e, show (0 : Int32) = I ((0 : Nat) : Int) from rfl]
        refine ok_mono (fun2 (N := N) (h := j) (x := x) (b0 := b0) (v3 := v3) (a0 := a0) (m := m) v1 hH hm hx (by rw [FR.A fu (by decide)]; exact h98) rfl rfl hh (fun z => by rw [FR.A fu (by decide)]; exact hv z) (fun i hi => by rw [e57]; exact hnc i hi) ha0 h5 (fun f2 d hd => ?_) j 0 _ M (by omega) (by omega) (FR.wj (FR.wj (FR.wa FR.rf (by decide)) (by decide)) (by decide)) (fun z => by rw [A_wj, A_wj, A_eq (by omega) (by omega)]) (by rw [hp_wj, if_neg (by omega), hp_wj, if_pos rfl]) (by rw [hp_wj, if_pos rfl]) (fun i hi => absurd hi (Nat.not_lt_zero i)) (fun i hi => by rw [J_wj, if_pos rfl, if_neg (by omega), J_wj, if_pos rfl, if_neg (by omega)]; rfl)) (fun y _ hy => pre y hy)
        have hd2 : ∀ i, i < j → d i = c i := fun i hi => by
          have h1 := hd i hi
          have h2 := hc i hi
          have h3 := v3'.2.2.2.1 (nix (rn (fr - 1)) (rh (fr - 1)) (A u 57 (b0 + i))) f0 (c i) (nmb i hi) (by rw [hpw, f1.2.2.2 93 (by decide)]; exact h2)
          rw [e57, v3'.2.1 _ (nmb i hi)] at h1
          exact SZ_fun h1 h3
        rw [smm_ext (c := d) (a := 0) (d := c) (b := 0) j (fun i hi => by rw [Nat.zero_add]; exact hd2 i hi), cap_eq j (by omega)]
        exact z'
      refine ok_br.mpr ⟨fun z15 => ok_ck.mpr ⟨inb_at (k := 27) (n := 16000) rfl (by omega) (by omega) (by decide), ?_⟩, fun z15 => ?_⟩
      · rw [show (15 : Int32) = I 15 from rfl, decE (by omega) (by omega) (by omega) (by omega)] at z15
        rw [I_tn (x := (q : Int)) (by omega) (by omega), Int.toNat_natCast]
        refine last _ ?_
        rw [show (wa v 89 p ((n2 + (2 + j) : Nat) : Int)).2.2.1 27 q = u.2.2.1 27 q from by rw [← e27]; rfl]
        exact hF1 (of_decide_eq_true z15)
      · rw [show (15 : Int32) = I 15 from rfl, decE (by omega) (by omega) (by omega) (by omega)] at z15
        exact last _ (hF2 (of_decide_eq_false z15))
    | succ k ih =>
      intro j w M hj hM f1
      obtain ⟨M, rfl⟩ : ∃ M', M = M' + 1 := ⟨M - 1, by omega⟩
      have cl := cap_le (c := c) j
      have cl2 := cap_le (c := c) (j + 1)
      obtain ⟨hv1, hv2, hv3, hv4⟩ := hv (by omega)
      have nm := (nameAt_x (N := N) e f1 (by decide) (by decide) (by decide) (by decide) (hnc j (by omega))).1
      show OK _ (fb_M_funRun_34 N (gg_M_funRun N M) w (I q) (I kk) v3 (I h) (I ((2 + h + smm (cap c) 0 j : Nat) : Int)) (I j))
      unfold fb_M_funRun_34
      have hpw : hp w p = hp u p := by unfold hp; rw [f1.2.2.2 88 (by decide)]
      have w133 : F w 133 = p := by rw [FR.F f1 (by decide)]; exact i.2.2.1
      have w55 : A w 55 x = ((b0 : Nat) : Int) := by rw [FR.A f1 (by decide)]; exact hv3
      rw [decI (by omega) (by omega) (by omega) (by omega), decide_eq_false (by omega), br_fq, hv1, inb_at (k := 55) (n := 1400) rfl (by omega) (by omega) (by decide), ck_t, I_tn (x := (x : Int)) (by omega) (by omega), Int.toNat_natCast, I_A' w55, I_add, inb_at (k := 57) (n := 24000) rfl (by omega) (by omega) (by decide), ck_t, I_tn (x := (b0 : Int) + (j : Int)) (by omega) (by omega), show ((b0 : Int) + (j : Int)).toNat = b0 + j from by omega, I_A' (show A w 57 (b0 + j) = A u 57 (b0 + j) from FR.A f1 (by decide)), nm, bnd_so, I_F' w133, f1.2.2.2 93 (by decide)]
      refine ok_bnd.mpr (ok_mono (copySize_ok (N := N) (Fv := Fv) (P := P) (n := n) (ow := ow) (kd := kd) (f := f0) (s := c j) (by rw [hpw]; exact hg) n500 (by omega) (by rw [hpw]; exact hc j (by omega)) (by omega)) (fun v r hv' => ?_))
      obtain ⟨v1, v2⟩ := hv'
      rw [v2, show ((if c j ≤ 500 then c j else 501 : Nat)) = cap c j from rfl, I_add, lit1q, I_add, show (j : Int) + 1 = ((j + 1 : Nat) : Int) from by omega, show ((2 + h + smm (cap c) 0 j : Nat) : Int) + ((cap c j : Nat) : Int) = ((2 + h + smm (cap c) 0 (j + 1) : Nat) : Int) from by
        show _ = ((2 + h + (smm (cap c) 0 j + cap c (0 + j)) : Nat) : Int)
        rw [Nat.zero_add]; omega]
      rw [← hv1]
      exact ih (j + 1) v M (by omega) (by omega) (FR.tr f1 v1)
  exact L1 h 0 u N (by omega) (by omega) FR.rf
theorem i15 (e : ERX Fv P PR T C ND CN p u fr ro rn rh cb pc ct q n ow kd (ro (fr - 1) + tH T q) (rn (fr - 1) + rh (fr - 1) + tM T q) bxM mu) (hp' : PGM Fv P PR T C pM pE ND CN PN SN UN FN u) (hfv : FVW Fv u UN FN) (hm : m < ND) (hx : NX T q m (tH T q + 1) (tM T q)) (h98 : A u 98 (60 * p + (fr - 1)) = ((m : Nat) : Int)) (h27 : 0 ≤ A u 27 q ∧ A u 27 q < FN) (hN : 60000 ≤ N) : OK (fun v _ => RES Fv P PR T C ND CN p mu u v) (fm_M_funRun N u (I q) (I 15)) := by
  have nd := hp'.1.1.1
  have qn := e.2.2.1
  unfold fm_M_funRun fb_M_funRun_0
  refine ok_ck.mpr ⟨inb_at (k := 25) (n := 16000) rfl (by omega) (by omega) (by decide), ?_⟩
  rw [show (15 : Int32) = I 15 from rfl, decE (by omega) (by omega) (by omega) (by omega), decide_eq_true rfl, br_tq]
  unfold fb_M_funRun_23
  rw [show (2 : Int32) + 0 = I ((2 + 0 : Nat) : Int) from rfl, show (0 : Int32) = I ((0 : Nat) : Int) from rfl]
  refine funC (N := N) (h := 0) (x := 0) (b0 := 0) (kk := 15) e hp' hm hx h98 hN (Or.inr rfl) (by omega) (fun z => by omega) (fun j hj => by omega) (fun _ b hb => ?_) (fun z => absurd rfl z)
  obtain ⟨g, hg⟩ : ∃ g : Nat, A u 27 q = g := ⟨(A u 27 q).toNat, by omega⟩
  rw [I_A' hg]
  exact hfv.1 g (by omega) b hb
theorem i14 {x h b0 : Nat} (e : ERX Fv P PR T C ND CN p u fr ro rn rh cb pc ct q n ow kd (ro (fr - 1) + tH T q) (rn (fr - 1) + rh (fr - 1) + tM T q) bxM mu) (hp' : PGM Fv P PR T C pM pE ND CN PN SN UN FN u) (hfv : FVW Fv u UN FN) (hm : m < ND) (hx : NX T q m (tH T q + 1) (tM T q)) (h98 : A u 98 (60 * p + (fr - 1)) = ((m : Nat) : Int)) (h25 : A u 25 q = x) (hxu : x < UN) (h54 : A u 54 x = h) (hh : h ≤ 40) (h55 : A u 55 x = b0) (hb0 : b0 + h ≤ 24000) (hnc : ∀ i : Nat, i < h → NCO (A u 57 (b0 + i)) (tM T q) (tL T q)) (hN : 60000 ≤ N) : OK (fun v _ => RES Fv P PR T C ND CN p mu u v) (fm_M_funRun N u (I q) (I 14)) := by
  have nd := hp'.1.1.1
  have un := hp'.1.1.2.2.2.1
  have qn := e.2.2.1
  unfold fm_M_funRun fb_M_funRun_0
  refine ok_ck.mpr ⟨inb_at (k := 25) (n := 16000) rfl (by omega) (by omega) (by decide), ?_⟩
  rw [show (15 : Int32) = I 15 from rfl, decE (by omega) (by omega) (by omega) (by omega), decide_eq_false (by omega), br_fq, I_tn (x := (q : Int)) (by omega) (by omega), Int.toNat_natCast, I_A' h25]
  refine ok_ck.mpr ⟨inb_at (k := 54) (n := 1400) rfl (by omega) (by omega) (by decide), ?_⟩
  unfold fb_M_funRun_23
  rw [I_tn (x := (x : Int)) (by omega) (by omega), Int.toNat_natCast, I_A' h54, show (2 : Int32) = I 2 from rfl, I_add, show (2 : Int) + (h : Int) = ((2 + h : Nat) : Int) from by omega, show (0 : Int32) = I ((0 : Nat) : Int) from rfl]
  exact funC (N := N) (h := h) (x := x) (b0 := b0) (kk := 14) e hp' hm hx h98 hN (Or.inl rfl) hh (fun _ => ⟨rfl, by omega, h55, hb0⟩) hnc (fun z => by omega) (fun _ b hb => hfv.2.1 x hxu b (by rw [h54]; exact hb))
end
end
section
section
variable {Fv : Int64 → Int64 → Prop} {P : Int64 → Prop} {u v w w2 : MS} {PR N p n n2 opM bnM bxM bx2 ND fr k tp mu CN PN SN UN FN rq q m h mm : Nat} {ow kd ow2 kd2 ro rn rh cb pc ct pM pE : Nat → Nat} {T : TY} {C : CY}
theorem lg_le {x y : Int64} (h : lg_cmp x y ≤ 0) : x.toInt ≤ y.toInt := by
  unfold lg_cmp at h
  by_cases e : x > y
  · rw [if_pos e] at h; exact absurd h (by decide)
  · have : ¬ y.toInt < x.toInt := fun z => e (Int64.lt_iff_toInt_lt.mpr z)
    omega
theorem npre_1 : ∀ k, k < 30 → 18 ≤ k → k ≠ 28 → npre k = 1 := by decide
set_option maxRecDepth 100000 in
theorem testR {k : Nat} (e : ERX Fv P PR T C ND CN p u fr ro rn rh cb pc ct q n ow kd (ro (fr - 1) + tH T q) (rn (fr - 1) + rh (fr - 1) + tM T q) bxM mu) (hp' : PGM Fv P PR T C pM pE ND CN PN SN UN FN u) (hk : 18 ≤ k ∧ k < 30) (hq : tB T q + npre k ≤ tH T q) (hm : m < ND) (hx : NX T q m (tH T q + 1 - npre k) (tM T q)) (h98 : A u 98 (60 * p + (fr - 1)) = ((m : Nat) : Int)) (hN : 60000 ≤ N) : OK (fun v _ => RES Fv P PR T C ND CN p mu u v) (fm_M_testRun N u (I k)) := by
  have i := e.1
  have x4 := MEI_p i
  have hH := (hp'.1.2.2.1 q e.2.2.1).1.1
  have hf := e.2.1.1
  have hro := (e.2.1.2.2.1 (fr - 1) (by omega)).2.2.2.2.1
  have hg := i.2.2.2.2.2.2.1
  have n500 : n ≤ 500 := i.2.2.2.2.2.2.2.1
  have n1 : k ≠ 28 → npre k = 1 := npre_1 k hk.2 hk.1
  have n2 : k = 28 → npre k = 2 := fun z => by rw [z]; rfl
  have e' := e
  rw [show ro (fr - 1) + tH T q = ro (fr - 1) + (tH T q - 1) + 1 from by omega] at e'
  unfold fm_M_testRun fb_M_testRun_0
  refine ok_bnd.mpr (ok_mono (takeE (N := N) e' (by omega)) (fun v t hv => ?_))
  obtain ⟨v1, v2, v3, v4⟩ := hv
  have pt : ∀ t, GT n ow kd P t → k ≠ 28 → OK (fun v _ => RES Fv P PR T C ND CN p mu u v) (fm_M_put N v t) := fun t gt h28 => by
    rw [n1 h28] at hx
    exact ok_mono (putR (N := N) v1 hm hx (by rw [FR.A v3 (by decide)]; exact h98) (by have := n1 h28; omega) rfl gt (by omega)) (fun y _ hy => RES.pre v3 v4 (by decide) (by decide) (by decide) (by decide) hy)
  have er : OK (fun v _ => RES Fv P PR T C ND CN p mu u v) (fr_M_error N v 11) :=
    ok_mono (err_ok (N := N) (a := 11) v1 (PGM_fr hp' v3 (by decide) (by decide)) (by omega) hN) (fun y _ hy => RES.pre v3 v4 (by decide) (by decide) (by decide) (by decide) hy)
  have p153 : k ≠ 28 → ∀ x : Int32, x = 0 ∨ x = 1 → OK (fun v _ => RES Fv P PR T C ND CN p mu u v) (fb_M_testRun_153 N () v x) := fun h28 x hx' => by
    unfold fb_M_testRun_153 fb_M_testRun_381
    rcases hx' with z | z
    · rw [z, truth0, bnd_so]; exact ok_bnd.mpr (ok_mono (pt _ (GT_atom hp'.2.1 (by omega)) h28) (fun y _ hy => ok_some.mpr hy))
    · rw [z, truth1, bnd_so]; exact ok_bnd.mpr (ok_mono (pt _ (GT_atom hp'.2.1 (by omega)) h28) (fun y _ hy => ok_some.mpr hy))
  have rt := so_r t
  have hn18 : ∀ x : Int, 0 ≤ x → x < 100 → decide (I (k : Int) - I 18 = I x) = decide ((k : Int) - 18 = x) := fun x h1 h2 => by rw [I_sub, decE (by omega) (by omega) (by omega) (by omega)]
  have hl18 : ∀ x : Int, 0 ≤ x → x < 100 → decide (I x ≤ I (k : Int) - I 18) = decide (x ≤ (k : Int) - 18) := fun x h1 h2 => by rw [I_sub, decI (by omega) (by omega) (by omega) (by omega)]
  rw [sortOf_e, bnd_so, show (18 : Int32) = I 18 from rfl, show (7 : Int32) = I 7 from rfl, show (9 : Int32) = I 9 from rfl, show (10 : Int32) = I 10 from rfl, hl18 7 (by omega) (by omega), hl18 9 (by omega) (by omega), hn18 9 (by omega) (by omega), hn18 10 (by omega) (by omega)]
  refine ok_br.mpr ⟨fun z7 => ok_br.mpr ⟨fun z9 => ok_br.mpr ⟨fun z => ?_, fun y9 => ok_br.mpr ⟨fun z => ?_, fun y10 => ?_⟩⟩, fun y9 => ?_⟩, fun z7 => ?_⟩
  · 
    have h28 : k ≠ 28 := by have := of_decide_eq_true z; omega
    refine ok_bnd.mpr (ok_mono (lengthOf_ok (N := N) v1.1 v2 (by omega)) (fun x r hx' => ?_))
    obtain ⟨x1, -⟩ := hx'
    subst x1
    refine ok_br.mpr ⟨fun _ => ?_, fun _ => ?_⟩
    · unfold fb_M_testRun_251 fb_M_testRun_381
      exact ok_bnd.mpr (ok_mono er (fun y _ hy => ok_some.mpr hy))
    · rw [term0_e, bnd_so]
      unfold fb_M_testRun_251 fb_M_testRun_381
      exact ok_bnd.mpr (ok_mono (pt _ (GT_int hp'.2.1) h28) (fun y _ hy => ok_some.mpr hy))
  · 
    have h28 : k = 28 := by have := of_decide_eq_true z; omega
    have hn2 := n2 h28
    rw [hn2] at hx hq
    have v1' := v1
    rw [show ro (fr - 1) + (tH T q - 1) = ro (fr - 1) + (tH T q - 2) + 1 from by omega] at v1'
    refine ok_bnd.mpr (ok_mono (takeE (N := N) v1' (by omega)) (fun w t2 hw => ?_))
    obtain ⟨w1, w2, w3, w4⟩ := hw
    have fw : FR [] [] [92] [] u w := FR.tr v3 w3
    have ow' : OTF p u w := OTF.tr v4 w4
    have er2 : OK (fun v _ => RES Fv P PR T C ND CN p mu u v) (fb_M_testRun_311 N () w) := by
      unfold fb_M_testRun_311 fb_M_testRun_342 fb_M_testRun_381
      exact ok_bnd.mpr (ok_mono (err_ok (N := N) (a := 11) w1 (PGM_fr hp' fw (by decide) (by decide)) (by omega) hN) (fun y _ hy => ok_some.mpr (RES.pre fw ow' (by decide) (by decide) (by decide) (by decide) hy)))
    have rt2 := va_r t2
    rw [sortOf_e, bnd_so, show (5 : Int32) = I 5 from rfl, decE (x := so t) rt.1 rt.2 (by omega) (by omega)]
    refine ok_br.mpr ⟨fun _ => ok_br.mpr ⟨fun z5 => ?_, fun _ => er2⟩, fun _ => er2⟩
    have e5 := of_decide_eq_true z5
    have ht : isH t := Or.inr (Or.inl e5)
    have hgw := w1.1.2.2.2.2.2.2.1
    obtain ⟨bk, parts⟩ := HP_bk hgw ht v2
    have bb : blk (hp w p) t = 1 + vn (hp w p (vn t)) := by unfold blk; rw [e5]; rfl
    have pp : prt t = 1 := by unfold prt; rw [e5]; rfl
    have hd := bk.2.1 e5
    have bn := bk.2.2.2.1
    have vt : va t = (vn t : Int) := by have := bk.1; unfold vn; omega
    have vh : va (hp w p (vn t)) = (vn (hp w p (vn t)) : Int) := by have := hd.1; unfold vn at *; omega
    rw [valueOf_e, bnd_so, lit1q, decL rt2.1 rt2.2 (by omega) (by omega)]
    refine ok_br.mpr ⟨fun _ => er2, fun y1 => ?_⟩
    have y1' := of_decide_eq_false y1
    rw [valueOf_e, bnd_so, valueOf_e, bnd_so, I_F' w1.1.2.2.1, vt, cell_e (by omega) (by omega), bnd_so]
    refine ok_br.mpr ⟨fun y2 => ?_, fun _ => er2⟩
    have y2' := lg_le (of_decide_eq_true y2)
    rw [Int32.toInt_toInt64, I_ti rt2.1 rt2.2, hd.2, vh] at y2'
    rw [valueOf_e, bnd_so, valueOf_e, bnd_so, I_F' w1.1.2.2.1, vt, I_add, show (vn t : Int) + va t2 = ((vn t + (va t2).toNat : Nat) : Int) from by omega, cell_e (by omega) (by omega), bnd_so]
    unfold fb_M_testRun_342 fb_M_testRun_381
    exact ok_bnd.mpr (ok_mono (putR (N := N) w1 hm hx (by rw [FR.A fw (by decide)]; exact h98) (by omega) rfl (parts _ (by omega) (by omega)) (by omega)) (fun y _ hy => ok_some.mpr (RES.pre fw ow' (by decide) (by decide) (by decide) (by decide) hy)))
  · 
    have h28 : k ≠ 28 := by have := of_decide_eq_false y10; omega
    rw [show (5 : Int32) = I 5 from rfl, decE (x := so t) rt.1 rt.2 (by omega) (by omega)]
    unfold fb_M_testRun_381
    refine ok_br.mpr ⟨fun z5 => ?_, fun _ => ok_bnd.mpr (ok_mono er (fun y _ hy => ok_some.mpr hy))⟩
    have e5 := of_decide_eq_true z5
    have ht : isH t := Or.inr (Or.inl e5)
    have hgv := v1.1.2.2.2.2.2.2.1
    obtain ⟨bk, parts⟩ := HP_bk hgv ht v2
    have bb : blk (hp v p) t = 1 + vn (hp v p (vn t)) := by unfold blk; rw [e5]; rfl
    have bn := bk.2.2.2.1
    have vt : va t = (vn t : Int) := by have := bk.1; unfold vn; omega
    rw [valueOf_e, bnd_so, I_F' v1.1.2.2.1, vt, cell_e (by omega) (by omega), bnd_so, term0_e, bnd_so]
    exact ok_bnd.mpr (ok_mono (pt _ (GT_int hp'.2.1) h28) (fun y _ hy => ok_some.mpr hy))
  · 
    have h28 : k ≠ 28 := by have := of_decide_eq_false y9; omega
    have h9 := of_decide_eq_false y9
    have h7 := of_decide_eq_true z7
    rw [decE (x := so t) rt.1 rt.2 (by omega) (by omega)]
    unfold fb_M_testRun_381
    refine ok_br.mpr ⟨fun z5 => ?_, fun _ => ok_bnd.mpr (ok_mono er (fun y _ hy => ok_some.mpr hy))⟩
    have e7 := of_decide_eq_true z5
    have ht : isH t := Or.inr (Or.inr e7)
    have hgv := v1.1.2.2.2.2.2.2.1
    obtain ⟨bk, parts⟩ := HP_bk hgv ht v2
    have bb : blk (hp v p) t = 2 := by unfold blk; rw [e7]; rfl
    have pp : prt t = 0 := by unfold prt; rw [e7]; rfl
    have bn := bk.2.2.2.1
    have vt : va t = (vn t : Int) := by have := bk.1; unfold vn; omega
    rw [valueOf_e, bnd_so, I_F' v1.1.2.2.1, vt, I_sub, I_add, I_sub, show (vn t : Int) + ((k : Int) - 18) - 7 = ((vn t + (k - 25) : Nat) : Int) from by omega, cell_e (by omega) (by omega), bnd_so]
    exact ok_bnd.mpr (ok_mono (pt _ (parts _ (by omega) (by omega)) h28) (fun y _ hy => ok_some.mpr hy))
  · have h28 : k ≠ 28 := by have := of_decide_eq_false z7; omega
    have y1 := p153 h28 1 (Or.inr rfl)
    have y0 := p153 h28 0 (Or.inl rfl)
    unfold fb_M_testRun_77
    exact ok_br.mpr ⟨fun _ => ok_br.mpr ⟨fun _ => y1, fun _ => y0⟩, fun _ => ok_br.mpr ⟨fun _ => ok_br.mpr ⟨fun _ => y1, fun _ => y0⟩, fun _ => ok_br.mpr ⟨fun _ => ok_br.mpr ⟨fun _ => y1, fun _ => ok_br.mpr ⟨fun _ => y1, fun _ => y0⟩⟩, fun _ => ok_br.mpr ⟨fun _ => ok_br.mpr ⟨fun _ => y1, fun _ => y0⟩, fun _ => ok_br.mpr ⟨fun _ => ok_br.mpr ⟨fun _ => y1, fun _ => y0⟩, fun _ => ok_br.mpr ⟨fun _ => ok_br.mpr ⟨fun _ => y1, fun _ => y0⟩, fun _ => ok_br.mpr ⟨fun _ => y1, fun _ => y0⟩⟩⟩⟩⟩⟩⟩
end
end
section
def PQ (AN PR : Nat) (t : Int64) : Prop := so t = 0 ∨ so t = 2 ∨ so t = 6 ∨ (so t = 1 ∧ 0 ≤ va t ∧ va t < AN) ∨ (so t = 4 ∧ 0 ≤ va t ∧ va t < PR)
theorem PQ_b {AN PR : Nat} (h : 22 ≤ AN) (h2 : PR ≤ 24) : PB (PQ AN PR) PR := by
  refine ⟨fun a h1 h2 => ?_, fun p hp => ?_, fun r h1 h2 => ?_, fun r h1 h2 => ?_, ?_⟩
  · exact Or.inr (Or.inr (Or.inr (Or.inl ⟨so_mk (by omega) (by omega), by rw [va_mk (by omega) (by omega)]; omega, by rw [va_mk (by omega) (by omega)]; omega⟩)))
  · exact Or.inr (Or.inr (Or.inr (Or.inr ⟨so_mk (by omega) (by omega), by rw [va_mk (by omega) (by omega)]; omega, by rw [va_mk (by omega) (by omega)]; omega⟩)))
  · exact Or.inr (Or.inl (so_mk (by omega) (by omega)))
  · exact Or.inl (so_mk (by omega) (by omega))
  · exact Or.inr (Or.inr (Or.inl (so_mk (by omega) (by omega))))
theorem PQ_s {AN PR : Nat} : PS (PQ AN PR) := fun t h => by
  rcases h with h | h | h | h | h <;> omega
theorem PQ_atom {AN PR : Nat} {a : Int} (h : 0 ≤ a) (h1 : a < AN) (h2 : AN ≤ 3000) : PQ AN PR (mk 1 a) := Or.inr (Or.inr (Or.inr (Or.inl ⟨so_mk (by omega) (by omega), by rw [va_mk (by omega) (by omega)]; omega, by rw [va_mk (by omega) (by omega)]; omega⟩)))
theorem PQ_mo {AN PR PR2 : Nat} (h : PR ≤ PR2) (t : Int64) (g : PQ AN PR t) : PQ AN PR2 t := by
  rcases g with g | g | g | g | ⟨g1, g2, g3⟩
  · exact Or.inl g
  · exact Or.inr (Or.inl g)
  · exact Or.inr (Or.inr (Or.inl g))
  · exact Or.inr (Or.inr (Or.inr (Or.inl g)))
  · exact Or.inr (Or.inr (Or.inr (Or.inr ⟨g1, g2, by omega⟩)))
def FRZ (w : MS) (T : TY) (ND z : Nat) : Prop := ∃ fr ro rn rh cb pc ct q, FRS w T ND z fr ro rn rh cb pc ct (tK T q) (tC T q) ∧ A w 98 (60 * z + (fr - 1)) = ((q : Nat) : Int) ∧ q < ND ∧ rh (fr - 1) = tL T q ∧ A w 106 z = ((cb (fr - 1) + tK T q : Nat) : Int) ∧ A w 92 z = ((ro (fr - 1) + tH T q : Nat) : Int) ∧ A w 94 z = ((rn (fr - 1) + rh (fr - 1) + tM T q : Nat) : Int) ∧ tG T q = 0 ∧ (A w 109 z = 0 ∨ (A w 109 z = 1 ∧ A w 23 q = 27 ∧ (A w 31 q = -1 → w.2.2.2 111 z = -1) ∧ 0 ≤ A w 110 z))
def FRH (w : MS) (UN FN z : Nat) : Prop := A w 109 z = 5 ∧ A w 95 z = 1 ∧ A w 92 z = 0 ∧ A w 106 z = 0 ∧ A w 99 (60 * z) = 0 ∧ A w 100 (60 * z) = 0 ∧ ∃ h : Nat, h ≤ 40 ∧ A w 94 z = h ∧ A w 101 (60 * z) = h ∧ ((A w 96 (60 * z) = -1 ∧ ∃ x : Nat, x < UN ∧ A w 170 z = x ∧ A w 54 x = h ∧ ∃ c : Nat, A w 53 x = c ∧ A w 41 c = 0) ∨ (h = 0 ∧ ∃ f : Nat, f < FN ∧ A w 96 (60 * z) = f ∧ A w 48 f = 0))
def PSX (w : MS) (T : TY) (ND UN FN z : Nat) : Prop := A w 109 z = 3 ∨ FRZ w T ND z ∨ FRH w UN FN z
def WLD (w : MS) (T : TY) (ND UN FN PR p : Nat) : Prop := LK w PR ∧ WTQ w PR ∧ (0 ≤ F w 128 ∧ F w 128 ≤ 200) ∧ (∀ i, 0 ≤ A w 127 i ∧ A w 127 i ≤ 100) ∧ (∀ i, -1 ≤ A w 97 i ∧ A w 97 i < 1400) ∧ (∀ i, 0 ≤ A w 132 i ∧ A w 132 i ≤ 100) ∧ ∀ z, z < PR → z ≠ p → PSX w T ND UN FN z
def PAU (Fv : Int64 → Int64 → Prop) (P : Int64 → Prop) (PR : Nat) (T : TY) (ND p : Nat) (w : MS) : Prop := ∃ fr ro rn rh cb pc ct q n ow kd bxM, ATQ Fv P PR T ND p w fr ro rn rh cb pc ct q n ow kd bxM ∧ A w 109 p = 0 ∧ tG T q = 0 ∧ F w 151 = 1
def GFR (u w : MS) : Prop := FR [118, 119, 121, 125, 128, 136, 138, 140, 144, 150, 151, 152, 153, 154, 155, 156, 157, 158, 159, 165, 166, 169] [139] [89, 90, 92, 94, 95, 96, 97, 98, 99, 100, 101, 102, 103, 104, 105, 106, 108, 109, 110, 112, 113, 114, 115, 116, 117, 122, 123, 124, 126, 127, 132, 135, 142, 143, 145, 146, 147, 160, 162, 168, 170] [88, 91, 93, 107, 111, 134, 137, 141, 148, 161, 163, 167] u w
def RSW (Fv : Int64 → Int64 → Prop) (AN : Nat) (T : TY) (C : CY) (ND CN UN FN p mu : Nat) (u w : MS) : Prop := ∃ PR, p < PR ∧ (ENDD Fv (PQ AN PR) PR p w ∨ WAI Fv (PQ AN PR) PR T ND p w ∨ PAU Fv (PQ AN PR) PR T ND p w ∨ ∃ m, m < mu ∧ STE Fv (PQ AN PR) PR T C ND CN p m w) ∧ WLD w T ND UN FN PR p ∧ GFR u w
section
variable {Fv : Int64 → Int64 → Prop} {P : Int64 → Prop} {u v w w2 : MS} {PR N p n n2 opM bnM bxM bx2 ND fr k tp mu CN PN SN UN FN rq q m h mm AN : Nat} {ow kd ow2 kd2 ro rn rh cb pc ct pM pE : Nat → Nat} {T : TY} {C : CY}
theorem FRS_otf {z : Nat} (h : FRS u T ND z fr ro rn rh cb pc ct k tp) (hz : z ≠ p) (hk : k ≤ 26) (o : OTF p u w) (h23 : ∀ i, A w 23 i = A u 23 i) : FRS w T ND z fr ro rn rh cb pc ct k tp := by
  obtain ⟨⟨h1, h2, h3⟩, h4, h5, h6, h7⟩ := h
  have row : ∀ i, i < 60 → A w 98 (60 * z + i) = A u 98 (60 * z + i) ∧ A w 99 (60 * z + i) = A u 99 (60 * z + i) ∧ A w 100 (60 * z + i) = A u 100 (60 * z + i) ∧ A w 101 (60 * z + i) = A u 101 (60 * z + i) := fun i hi => o.2.1 _ (by omega)
  have cts : ∀ i c0 kk tt a b c, c0 + kk ≤ 1600 → CTI u T ND z ct i c0 kk tt a b c → CTI w T ND z ct i c0 kk tt a b c := fun i c0 kk tt a b c hc hh j hj => by
    obtain ⟨q1, q2, q3, q4⟩ := o.2.2.1 (1600 * z + (c0 + j)) (by omega)
    rw [q1, q2, q3, q4, h23]; exact hh j hj
  have cb26 : ∀ i, i < fr → cb i ≤ 26 * i := fun i hi => (h5 i hi).2.2.2.2.2.2
  refine ⟨⟨h1, h2, by rw [(o.1 z hz).2.2.1]; exact h3⟩, h4, fun i hi => ?_, fun i hi => ?_, cts _ _ _ _ _ _ _ (by have := cb26 (fr - 1) (by omega); omega) h7⟩
  · obtain ⟨q1, q2, q3, q4⟩ := row i (by omega)
    rw [q2, q3, q4]; exact h5 i hi
  · obtain ⟨r1, r2, r3, r4, r6, r7, r8, r9, r10⟩ := h6 i hi
    exact ⟨by rw [(row i (by omega)).1]; exact r1, r2, r3, r4, r6, r7, r8, r9, cts _ _ _ _ _ _ _ (by have := cb26 (i + 1) hi; omega) r10⟩
theorem PSX_otf {z : Nat} (h : PSX u T ND UN FN z) (hz : z ≠ p) (hT : ∀ q, q < ND → tK T q ≤ 26) (o : OTF p u w) (hk : ∀ k, k ∈ KP → ∀ i, A w k i = A u k i) (h109 : A w 109 z = A u 109 z ∨ A w 109 z = 3) : PSX w T ND UN FN z := by
  rcases h109 with h109 | h109
  · rcases h with h | ⟨fr, ro, rn, rh, cb, pc, ct, q, h1, h2, h3, h4, h5, h6, h7, h8, h9⟩ | ⟨h1, h2, h3, h4, h5, h6, x, h7, h8, h9, h10⟩
    · exact Or.inl (by rw [h109]; exact h)
    · have hf := h1.1
      obtain ⟨o1, o2, o3, o4⟩ := o.1 z hz
      refine Or.inr (Or.inl ⟨fr, ro, rn, rh, cb, pc, ct, q, FRS_otf h1 hz (hT q h3) o (hk 23 (by decide)), by rw [(o.2.1 (60 * z + (fr - 1)) (by omega)).1]; exact h2, h3, h4, by rw [o4]; exact h5, by rw [o1]; exact h6, by rw [o2]; exact h7, h8, ?_⟩)
      rw [h109, hk 23 (by decide), hk 31 (by decide), (o.2.2.2.2.2 z hz).2.1, (o.2.2.2.2.2 z hz).2.2]
      exact h9
    · obtain ⟨o1, o2, o3, o4⟩ := o.1 z hz
      obtain ⟨q1, q2, q3, q4⟩ := o.2.1 (60 * z) (by omega)
      have q5 := o.2.2.2.2.1 (60 * z) (by omega)
      refine Or.inr (Or.inr ⟨by rw [h109]; exact h1, by rw [o3]; exact h2, by rw [o1]; exact h3, by rw [o4]; exact h4, by rw [q2]; exact h5, by rw [q3]; exact h6, x, h7, by rw [o2]; exact h8, by rw [q4]; exact h9, ?_⟩)
      rw [q5, (o.2.2.2.2.2 z hz).1]
      rcases h10 with ⟨y1, y, y2, y3, y4, c, y5, y6⟩ | ⟨y1, y, y2, y3, y4⟩
      · exact Or.inl ⟨y1, y, y2, y3, by rw [hk 54 (by decide)]; exact y4, c, by rw [hk 53 (by decide)]; exact y5, by rw [hk 41 (by decide)]; exact y6⟩
      · exact Or.inr ⟨y1, y, y2, y3, by rw [hk 48 (by decide)]; exact y4⟩
  · exact Or.inl h109
theorem PRG_26 (hg : PRG w T C pM pE ND CN PN SN UN FN) : ∀ q, q < ND → tK T q ≤ 26 := fun q hq => (hg.2.2.1 q hq).1.2.2.1
theorem WLD_otf (h : WLD u T ND UN FN PR p) (hT : ∀ q, q < ND → tK T q ≤ 26) (o : OTF p u w) (hk : ∀ k, k ∈ KP → ∀ i, A w k i = A u k i) (h109 : ∀ z, z ≠ p → A w 109 z = A u 109 z ∨ A w 109 z = 3) (lk : LK w PR) (wt : WTQ w PR) (h128 : 0 ≤ F w 128 ∧ F w 128 ≤ 200) (h127 : ∀ i, 0 ≤ A w 127 i ∧ A w 127 i ≤ 100) (h132 : ∀ i, 0 ≤ A w 132 i ∧ A w 132 i ≤ 100) : WLD w T ND UN FN PR p := by
  obtain ⟨h1, h2, h3, h4, h5, h6, h7⟩ := h
  refine ⟨lk, wt, h128, h127, fun i => ?_, h132, fun z hz hzp => PSX_otf (h7 z hz hzp) hzp hT o hk (h109 z hzp)⟩
  rcases o.2.2.2.1 i with e | e
  · rw [e]; exact h5 i
  · exact e
theorem WLD_fr {is ls as js : List Nat} (h : WLD u T ND UN FN PR p) (hT : ∀ q, q < ND → tK T q ≤ 26) (o : OTF p u w) (f : FR is ls as js u w) (hi : ∀ k, k ∈ [125, 128] → k ∉ is) (ha : ∀ k, k ∈ 116 :: 117 :: 123 :: 124 :: 127 :: 132 :: KP → k ∉ as) (h109 : ∀ z, z ≠ p → A w 109 z = A u 109 z ∨ A w 109 z = 3) : WLD w T ND UN FN PR p :=
  WLD_otf h hT o (fun k hk i => FR.A f (ha k (List.mem_cons_of_mem _ (List.mem_cons_of_mem _ (List.mem_cons_of_mem _ (List.mem_cons_of_mem _ (List.mem_cons_of_mem _ (List.mem_cons_of_mem _ hk)))))))) h109 (LK_fr h.1 f (ha _ (by decide)) (ha _ (by decide))) (WT_fr h.2.1 f (hi _ (by decide)) (ha _ (by decide)) (ha _ (by decide))) (by rw [FR.F f (hi _ (by decide))]; exact h.2.2.1) (fun i => by rw [FR.A f (ha _ (by decide))]; exact h.2.2.2.1 i) (fun i => by rw [FR.A f (ha _ (by decide))]; exact h.2.2.2.2.2.1 i)
theorem RES_rsw (r : RES Fv (PQ AN PR) PR T C ND CN p mu u w) (hw : WLD u T ND UN FN PR p) (hT : ∀ q, q < ND → tK T q ≤ 26) (hp : p < PR) : RSW Fv AN T C ND CN UN FN p mu u w := by
  obtain ⟨r1, r2, r3, r4⟩ := r
  refine ⟨PR, hp, ?_, WLD_fr hw hT r3 r2.st (by decide) (by decide) (fun z hz => Or.inl (r4 z hz)), FR.mo r2.st (by decide) (by decide) (by decide) (by decide)⟩
  rcases r1 with r1 | r1 | ⟨m, r1, r5⟩
  · exact Or.inl r1
  · exact Or.inr (Or.inl r1)
  · exact Or.inr (Or.inr (Or.inr ⟨m, r1, r5⟩))
theorem RSW.pre (a : GFR u v) (r : RSW Fv AN T C ND CN UN FN p mu v w) : RSW Fv AN T C ND CN UN FN p mu u w := by
  obtain ⟨PR, h1, h2, h3, h4⟩ := r
  exact ⟨PR, h1, h2, h3, FR.tr a h4⟩
end
end
section
def MEX (Fv : Int64 → Int64 → Prop) (P : Int64 → Prop) (PR : Nat) (w : MS) (p n : Nat) (ow kd : Nat → Nat) (opM bnM bxM : Nat) : Prop :=
  DW Fv P PR w ∧ p < PR ∧ F w 133 = p ∧ A w 89 p = ((n : Nat) : Int) ∧ CX w p (hp w p) n ow kd Fv P opM bnM bxM
section
variable {Fv : Int64 → Int64 → Prop} {P P2 : Int64 → Prop} {u v w w2 : MS} {PR PR2 N p n n2 opM bnM bxM bx2 ND fr k tp mu CN PN SN UN FN rq q m h mm AN : Nat} {ow kd ow2 kd2 ro rn rh cb pc ct pM pE : Nat → Nat} {T : TY} {C : CY}
theorem MEI_x (i : MEI Fv P PR w p n ow kd opM bnM bxM) : MEX Fv P PR w p n ow kd opM bnM bxM := ⟨i.1, i.2.1, i.2.2.1, i.2.2.2.2.1, i.2.2.2.2.2⟩
theorem MEX_i (i : MEX Fv P PR w p n ow kd opM bnM bxM) (h : A w 109 p ≠ 3) : MEI Fv P PR w p n ow kd opM bnM bxM := ⟨i.1, i.2.1, i.2.2.1, h, i.2.2.2.1, i.2.2.2.2⟩
theorem MEX_p (i : MEX Fv P PR w p n ow kd opM bnM bxM) : p < 24 := i.2.2.2.2.2.2.2.1
theorem MEX_of (d : DW Fv P PR w) (hp : p < PR) (h1 : F w 133 = p) (h2 : A w 92 p = ((opM : Nat) : Int)) (h3 : A w 94 p = ((bnM : Nat) : Int)) : ∃ n ow kd bx, MEX Fv P PR w p n ow kd opM bnM bx := by
  obtain ⟨n, ow, kd, o2, b2, bx, a, x1, x2, x3, x4, x5, x6, x7, x8, x9, x10, x11⟩ := d.2.1 p hp
  obtain rfl : o2 = opM := by omega
  obtain rfl : b2 = bnM := by omega
  exact ⟨n, ow, kd, bx, d, hp, h1, a, x1, x2, x3, x4, x5, x6, x7, x8, x9, x10, x11⟩
theorem DW_op (d : DW Fv P PR w) (f : FR [] [] [92] [91] w w2) (h92 : ∀ z, z ≠ p → A w2 92 z = A w 92 z) (h91 : ∀ i, ¬ (46000 * p ≤ i ∧ i < 46000 * p + 46000) → w2.2.2.2 91 i = w.2.2.2 91 i) (nq : PRC Fv P w2 p) : DW Fv P PR w2 := by
  obtain ⟨⟨d1, d1'⟩, d2, ⟨n4, ow4, kd4, d3a, d3b, d3c⟩, d4, ⟨eF, eM, e1, e2, e3, e4, e5⟩, d6⟩ := d
  have h88 : ∀ o, hp w2 o = hp w o := fun o => by unfold hp; rw [f.2.2.2 88 (by decide)]
  refine ⟨⟨by rw [FR.F f (by decide)]; exact d1, d1'⟩, fun z hz => ?_, ⟨n4, ow4, kd4, by rw [FR.A f (by decide)]; exact d3a, d3b, by rw [h88]; exact d3c⟩, by rw [FR.F f (by decide)]; exact d4, ⟨eF, eM, by rw [FR.F f (by decide)]; exact e1, by rw [FR.F f (by decide)]; exact e2, e3, by rw [cE_eq PR (fun p _ => FR.A f (by decide))]; exact e4, fun i h1 h2 => ?_⟩, fun z hz => by rw [FR.A f (by decide)]; exact d6 z hz⟩
  · by_cases e : z = p
    · rw [e]; exact nq
    · exact PRC_same (d2 z hz) (FR.A f (by decide)) (h88 z) (h92 z e) (FR.A f (by decide)) (FR.A f (by decide)) (fun i hi => h91 _ (by omega)) (fun i _ => by rw [f.2.2.2 93 (by decide)]) (fun i _ => by rw [f.2.2.2 107 (by decide)]) (by rw [FR.F f (by decide), d4]; omega)
  · obtain ⟨q1, q2, q3, q4⟩ := e5 i h1 h2
    rw [FR.A f (by decide), FR.A f (by decide), FR.A f (by decide), f.2.2.2 148 (by decide)]
    refine ⟨q1, q2, q3, ?_⟩
    rcases q4 with q4 | ⟨q4, q5, q6⟩
    · exact Or.inl q4
    · refine Or.inr ⟨q4, ?_, GTP_same q6 (FR.A f (by decide)) (h88 _)⟩
      rw [FR.A f (by decide)]; exact q5
theorem put_x {t : Int64} (m : MEX Fv P PR w p n ow kd opM bnM bxM) (g : GT n ow kd P t) (ho : opM < 46000) : OK (fun w2 _ => FR [] [] [92] [91] w w2 ∧ OTF p w w2 ∧ MEX Fv P PR w2 p n ow kd (opM + 1) bnM bxM) (fm_M_put N w t) := by
  obtain ⟨m1, m2, m3, m5, ⟨x1, x2, x3, x4, x5, x6, x7, x8, x9, x10, x11⟩⟩ := m
  have f140 := m1.2.2.2.1
  unfold fm_M_put fb_M_put_0
  rw [I_F' m3, inb_at (k := 92) (n := 24) rfl (by omega) (by omega) (by decide), ck_t, I_tn (x := (p : Int)) (by omega) (by omega), Int.toNat_natCast, I_A' x5.1, show (46000 : Int32) = I 46000 from rfl, I_mul, I_add, inb_at (k := 91) (n := 1104000) rfl (by omega) (by omega) (by decide), ck_t, lt_e, I_tn (by omega) (by omega), show ((p : Int) * 46000 + (opM : Int)).toNat = 46000 * p + opM from by omega, wj_e]
  rw [show (wj w 91 (46000 * p + opM) t).1 133 = I p from I_F' m3, inb_at (k := 92) (n := 24) rfl (by omega) (by omega) (by decide), ck_t, ck_t, lt_e, I_tn (by omega) (by omega), Int.toNat_natCast, show (wj w 91 (46000 * p + opM) t).2.2.1 92 p = I opM from I_A' x5.1, lit1q, I_add, wa_e]
  generalize hz : wa (wj w 91 (46000 * p + opM) t) 92 p ((opM : Int) + 1) = z
  have fz : FR [] [] [92] [91] w z := by rw [← hz]; exact FR.wa (FR.wj FR.rf (by decide)) (by decide)
  have a92 : ∀ i, A z 92 i = if i = p then (opM : Int) + 1 else A w 92 i := fun i => by rw [← hz, A_eq (by omega) (by omega)]; rfl
  have j91 : ∀ i, z.2.2.2 91 i = if i = 46000 * p + opM then t else w.2.2.2 91 i := fun i => by rw [← hz, J_wa, J_wj, if_pos rfl]
  have hpz : hp z p = hp w p := by unfold hp; rw [fz.2.2.2 88 (by decide)]
  have z140 : F z 140 = -1 := by rw [FR.F fz (by decide)]; exact f140
  have cx : CX z p (hp z p) n ow kd Fv P (opM + 1) bnM bxM := ⟨rfl, by rw [hpz]; exact x2, x3, x4, ⟨by rw [a92, if_pos rfl]; omega, by omega⟩, by rw [FR.A fz (by decide)]; exact x6, by rw [FR.A fz (by decide)]; exact x7, fun i hi => by
    rw [j91]
    by_cases e : i = opM
    · subst e; rw [if_pos rfl]; exact g
    · rw [if_neg (by omega)]; exact x8 i (by omega), fun i hi => by rw [fz.2.2.2 93 (by decide)]; exact x9 i hi, fun i hi => by rw [fz.2.2.2 107 (by decide)]; exact x10 i hi, fun e => by omega⟩
  have m5' : A z 89 p = ((n : Nat) : Int) := by rw [FR.A fz (by decide)]; exact m5
  exact ok_some.mpr ⟨fz, OTF_at (k0 := 92) fz (i0 := p) (fun j hj => by rw [a92, if_neg hj]) (Or.inl ⟨by decide, rfl⟩), DW_op m1 fz (fun q hq => by rw [a92, if_neg hq]) (fun i hi => by rw [j91, if_neg (by omega)]) ⟨n, ow, kd, _, _, _, m5', cx⟩, m2, by rw [FR.F fz (by decide)]; exact m3, m5', cx⟩
theorem take_x (m : MEX Fv P PR w p n ow kd (opM + 1) bnM bxM) : OK (fun w2 r => FR [] [] [92] [91] w w2 ∧ OTF p w w2 ∧ GT n ow kd P r ∧ MEX Fv P PR w2 p n ow kd opM bnM bxM) (fm_M_take N w) := by
  obtain ⟨m1, m2, m3, m5, ⟨x1, x2, x3, x4, x5, x6, x7, x8, x9, x10, x11⟩⟩ := m
  have f140 := m1.2.2.2.1
  unfold fm_M_take fb_M_take_0
  rw [I_F' m3, inb_at (k := 92) (n := 24) rfl (by omega) (by omega) (by decide), ck_t, ck_t, lt_e, I_tn (x := (p : Int)) (by omega) (by omega), Int.toNat_natCast, I_A' x5.1, lit1q, I_sub, show ((opM + 1 : Nat) : Int) - 1 = (opM : Int) from by omega, wa_e]
  rw [show (wa w 92 p opM).1 133 = I p from I_F' m3, inb_at (k := 92) (n := 24) rfl (by omega) (by omega) (by decide), ck_t, I_tn (x := (p : Int)) (by omega) (by omega), Int.toNat_natCast, I_A' (show A (wa w 92 p opM) 92 p = opM by rw [A_eq (by omega) (by omega), if_pos rfl]), show (46000 : Int32) = I 46000 from rfl, I_mul, I_add, inb_at (k := 91) (n := 1104000) rfl (by omega) (by omega) (by decide), ck_t, I_tn (by omega) (by omega), show ((p : Int) * 46000 + (opM : Int)).toNat = 46000 * p + opM from by omega]
  have a92 : ∀ i, A (wa w 92 p opM) 92 i = if i = p then (opM : Int) else A w 92 i := fun i => A_eq (by omega) (by omega)
  have fz : FR [] [] [92] [91] w (wa w 92 p opM) := FR.wa FR.rf (by decide)
  have j91 : (wa w 92 p opM).2.2.2 91 = w.2.2.2 91 := rfl
  have hpz : hp (wa w 92 p opM) p = hp w p := rfl
  generalize wa w 92 p opM = z at *
  have cx : CX z p (hp z p) n ow kd Fv P opM bnM bxM := ⟨rfl, by rw [hpz]; exact x2, x3, x4, ⟨by rw [a92, if_pos rfl], by omega⟩, by rw [FR.A fz (by decide)]; exact x6, by rw [FR.A fz (by decide)]; exact x7, fun i hi => by rw [j91]; exact x8 i (by omega), fun i hi => by rw [fz.2.2.2 93 (by decide)]; exact x9 i hi, fun i hi => by rw [fz.2.2.2 107 (by decide)]; exact x10 i hi, fun e => by have := FR.F fz (k := 140) (by decide); omega⟩
  have m5' : A z 89 p = ((n : Nat) : Int) := by rw [FR.A fz (by decide)]; exact m5
  refine ok_some.mpr ⟨fz, OTF_at (k0 := 92) fz (i0 := p) (fun j hj => by rw [a92, if_neg hj]) (Or.inl ⟨by decide, rfl⟩), ?_, DW_op m1 fz (fun q hq => by rw [a92, if_neg hq]) (fun i hi => by rw [j91]) ⟨n, ow, kd, _, _, _, m5', cx⟩, m2, by rw [FR.F fz (by decide)]; exact m3, m5', cx⟩
  rw [j91]; exact x8 opM (by omega)
theorem nxtP {is ls as js : List Nat} (e : ERX Fv P PR T C ND CN p u fr ro rn rh cb pc ct q n ow kd opM bnM bxM mu) (hm : m < ND) (hx : NX T q m h mm) (f : FR is ls as js u v) (hi : ∀ k, k ∈ [149, 150, 151, 152, 153, 154, 155, 156, 157, 158, 159, 164, 165] → k ∉ is ∨ (tG T q = 0 ∧ (k = 150 ∨ k = 151))) (ha : ∀ k, k ∈ [23, 25, 31, 41, 95, 99, 100, 101, 102, 103, 104, 105, 106] → k ∉ as) (hj : 111 ∉ js) (h98 : A v 98 (60 * p + (fr - 1)) = ((m : Nat) : Int)) (h98' : ∀ j, j ≠ 60 * p + (fr - 1) → A v 98 j = A u 98 j) (h109 : A v 109 p = 0) (i : MEI Fv P2 PR2 v p n2 ow2 kd2 (ro (fr - 1) + h) (rn (fr - 1) + rh (fr - 1) + mm) bx2) (hG : tG T q = 0) : ∃ m2, m2 < mu ∧ STE Fv P2 PR2 T C ND CN p m2 v := by
  obtain ⟨-, h2, h3, h4, h5, h6, h7, h8, h9⟩ := e
  obtain ⟨y1, y2, y3⟩ : tG T q = 0 ∧ F u 152 = 0 ∧ CLG u (sR T pc (fr - 1) + tR T q) 0 mu := by
    rcases h9 with y | ⟨y1, c, s, many, hg, hb', mm', r, t1, t2, -⟩
    · exact y
    · omega
  obtain ⟨n1, n2', n3, n4, n5, n6, n7, n8, n9⟩ := hx
  have fi : ∀ k, k ∈ [152, 164, 165] → F v k = F u k := fun k hk => FR.F f (by
    rcases hi k (by revert hk; simp; omega) with z | ⟨-, z⟩
    · exact z
    · exfalso; revert hk; simp; omega)
  obtain ⟨e1, e2, e3, e4⟩ := y3
  refine ⟨mu - 1, by omega, fr, ro, rn, rh, cb, pc, ct, m, n2, ow2, kd2, bx2, ⟨by rw [n1, n2']; exact i, by rw [n4, n8]; exact FRS_98 h2 f (fun k hk => ha k (by revert hk; simp; omega)) h98', h98, hm, by rw [n3]; exact h4, by rw [FR.A f (ha _ (by decide)), n4]; exact h5⟩, h109, Or.inl ⟨by rw [n5]; exact hG, by rw [fi _ (by decide)]; exact y2, ?_⟩⟩
  unfold CLG
  rw [fi _ (by decide), fi _ (by decide)]
  exact ⟨e1, e2, e3, by omega⟩
theorem nm_loop {a : Int32} (d : DW Fv P PR w) : ∀ (m k : Nat), k ≤ PR → PR - k < m → OK (fun w2 r => w2 = w ∧ (r = I (-1) ∨ ∃ z : Nat, z < PR ∧ r = I z)) (gg_M_namedBy N m w a (I k)) := by
  have pr := d.1.2
  intro m
  induction m with
  | zero => intro k _ h; omega
  | succ m ih =>
    intro k hk hm
    show OK _ (fb_M_namedBy_2 N (gg_M_namedBy N m) w a (I k))
    unfold fb_M_namedBy_2 fb_M_namedBy_32
    rw [I_F' d.1.1, decI (by omega) (by omega) (by omega) (by omega)]
    refine ok_br.mpr ⟨fun _ => ok_some.mpr ⟨rfl, Or.inl rfl⟩, fun z => ?_⟩
    have z' := of_decide_eq_false z
    have nxt : OK (fun w2 r => w2 = w ∧ (r = I (-1) ∨ ∃ z : Nat, z < PR ∧ r = I z)) (gg_M_namedBy N m w a (I k + 1)) := by
      rw [lit1q, I_add, show (k : Int) + 1 = ((k + 1 : Nat) : Int) from by omega]
      exact ih (k + 1) (by omega) (by omega)
    exact ok_ck.mpr ⟨inb_at (k := 113) (n := 24) rfl (by omega) (by omega) (by decide), ok_br.mpr ⟨fun _ => ok_ck.mpr ⟨inb_at (k := 109) (n := 24) rfl (by omega) (by omega) (by decide), ok_br.mpr ⟨fun _ => nxt, fun _ => ok_some.mpr ⟨rfl, Or.inr ⟨k, by omega, rfl⟩⟩⟩⟩, fun _ => nxt⟩⟩
theorem namedBy_ok {a : Int32} (d : DW Fv P PR w) (hN : 100 ≤ N) : OK (fun w2 r => w2 = w ∧ (r = I (-1) ∨ ∃ z : Nat, z < PR ∧ r = I z)) (fm_M_namedBy N w a) := by
  have pr := d.1.2
  unfold fm_M_namedBy fb_M_namedBy_0
  exact nm_loop (N := N) d N 0 (by omega) (by omega)
theorem finX {is ls as js : List Nat} (e : ERX Fv P PR T C ND CN p u fr ro rn rh cb pc ct q n ow kd opM bnM bxM mu) (hG : tG T q = 0) (hm : m < ND) (hx : NX T q m h mm) (f : FR is ls as js u v) (hi : ∀ k, k ∈ [149, 150, 151, 152, 153, 154, 155, 156, 157, 158, 159, 164, 165] → k ∉ is ∨ k = 150) (ha : ∀ k, k ∈ [23, 25, 31, 41, 95, 98, 99, 100, 101, 102, 103, 104, 105, 106] → k ∉ as) (hj : 111 ∉ js) (h98 : A u 98 (60 * p + (fr - 1)) = ((m : Nat) : Int)) (h109 : A v 109 p = 0 ∨ A v 109 p = 3) (i : MEX Fv (PQ AN PR2) PR2 v p n2 ow2 kd2 (ro (fr - 1) + h) (rn (fr - 1) + rh (fr - 1) + mm) bx2) (hw : WLD v T ND UN FN PR2 p) (g : GFR u v) : RSW Fv AN T C ND CN UN FN p mu u v := by
  refine ⟨PR2, i.2.1, ?_, hw, g⟩
  rcases h109 with h | h
  · exact Or.inr (Or.inr (Or.inr (nxtP e hm hx f (fun k hk => by rcases hi k hk with z | z; exact Or.inl z; exact Or.inr ⟨hG, Or.inl z⟩) (fun k hk => ha k (by revert hk; simp; omega)) hj (by rw [FR.A f (ha _ (by decide))]; exact h98) (fun j _ => FR.A f (ha _ (by decide))) h (MEX_i i (by omega)) hG)))
  · exact Or.inl ⟨i.1, h⟩
end
end
section
section
variable {Fv : Int64 → Int64 → Prop} {P P2 : Int64 → Prop} {u v w w2 : MS} {PR PR2 N p n n2 opM bnM bxM bx2 ND fr k tp mu CN PN SN UN FN rq q m h mm AN : Nat} {ow kd ow2 kd2 ro rn rh cb pc ct pM pE : Nat → Nat} {T : TY} {C : CY}
theorem TM_me {q : Nat} {t : Int64} (i : MEI Fv P PR u p n ow kd opM bnM bxM) (g : GT n ow kd P t) : TM Fv P u q p t := by
  have x4 := MEI_p i
  by_cases e : p = q
  · subst e; exact Or.inr (Or.inr ⟨rfl, n, ow, kd, opM, bnM, bxM, i.2.2.2.2.1, i.2.2.2.2.2, g⟩)
  · exact Or.inr (Or.inl ⟨by omega, e, n, ow, kd, i.2.2.2.2.1, i.2.2.2.2.2.2.2.1, i.2.2.2.2.2.2.1, g⟩)
theorem MSG_me {q : Nat} (e : ERX Fv P PR T C ND CN p u fr ro rn rh cb pc ct q n ow kd opM bnM bxM mu) {z : Nat} (h : MSG Fv P PR u z v) : ∃ n2 ow2 kd2 bx2, MEX Fv P PR v p n2 ow2 kd2 opM bnM bx2 := by
  have i := e.1
  exact MEX_of h.1 i.2.1 (by rw [FR.F h.2.1 (by decide)]; exact i.2.2.1) (by rw [FR.A h.2.1 (by decide)]; exact i.2.2.2.2.2.2.2.2.2.1.1) (by rw [FR.A h.2.1 (by decide)]; exact i.2.2.2.2.2.2.2.2.2.2.1.1)
theorem MSG_109 {z y : Nat} (h : MSG Fv P PR u z v) : A v 109 y = A u 109 y ∨ A v 109 y = 3 := by
  by_cases e : y = z
  · subst e; exact h.2.2.2.1
  · exact Or.inl (h.2.2.1 y e).1
theorem i11 (e : ERX Fv (PQ AN PR) PR T C ND CN p u fr ro rn rh cb pc ct q n ow kd (ro (fr - 1) + tH T q) (rn (fr - 1) + rh (fr - 1) + tM T q) bxM mu) (hp' : PGM Fv (PQ AN PR) PR T C pM pE ND CN PN SN UN FN u) (hw : WLD u T ND UN FN PR p) (hG : tG T q = 0) (hq : tB T q + 2 ≤ tH T q) (hm : m < ND) (hx : NX T q m (tH T q - 1) (tM T q)) (h98 : A u 98 (60 * p + (fr - 1)) = ((m : Nat) : Int)) (hN : 60000 ≤ N) : OK (fun v _ => RSW Fv AN T C ND CN UN FN p mu u v) (fm_M_sendRun N u) := by
  have i := e.1
  have x4 := MEI_p i
  have hH := (hp'.1.2.2.1 q e.2.2.1).1.1
  have hf := e.2.1.1
  have hro := (e.2.1.2.2.1 (fr - 1) (by omega)).2.2.2.2.1
  have hT := PRG_26 hp'.1
  obtain ⟨t1, g1⟩ := top_ok (N := N) (k := 1) i (by omega)
  obtain ⟨t0, g0⟩ := top_ok (N := N) (k := 0) i (by omega)
  have y41 : ∀ r : Int32, (r = I (-1) ∨ ∃ z : Nat, z < PR ∧ r = I z) → OK (fun v _ => RSW Fv AN T C ND CN UN FN p mu u v) (fb_M_sendRun_41 N () u r) := fun r hr => by
    unfold fb_M_sendRun_41
    have bad : OK (fun v _ => RSW Fv AN T C ND CN UN FN p mu u v) (bnd (fr_M_error N u 11) (fun u6 _ => some (u6, ()))) := ok_bnd.mpr (ok_mono (err_ok (N := N) (a := 11) e hp' (by omega) hN) (fun y _ hy => ok_some.mpr (RES_rsw hy hw hT i.2.1)))
    refine ok_br.mpr ⟨fun _ => bad, fun z1 => ?_⟩
    obtain ⟨z, hz, rfl⟩ : ∃ z : Nat, z < PR ∧ r = I z := by
      rcases hr with y | y
      · exact absurd y (of_decide_eq_false z1)
      · exact y
    have pr := i.1.1.2
    rw [show (0 : Int32) = I ((0 : Nat) : Int) from rfl, t0, bnd_so, I_F' i.2.2.1, show (2 : Int32) = I ((2 : Nat) : Int) from rfl]
    refine ok_bnd.mpr (ok_mono (message_ok (N := N) (sort := 2) (p := 0) (r := 0) (wr := 0) (o := p) i.1 hz hp'.2.1 (by omega) (fun z => by omega) (by omega) (by omega) (by omega) (fun _ => TM_me i g0) hN) (fun v _ hv => ?_))
    obtain ⟨n2, ow2, kd2, bx2, ix⟩ := MSG_me e hv
    rw [show ro (fr - 1) + tH T q = ro (fr - 1) + (tH T q - 2) + 1 + 1 from by omega] at ix
    refine ok_bnd.mpr (ok_mono (take_x (N := N) ix) (fun v1 r3 hv1 => ?_))
    obtain ⟨a1, a2, a3, a4⟩ := hv1
    refine ok_bnd.mpr (ok_mono (take_x (N := N) a4) (fun v2 r4 hv2 => ?_))
    obtain ⟨b1, b2, b3, b4⟩ := hv2
    refine ok_bnd.mpr (ok_mono (put_x (N := N) b4 a3 (by omega)) (fun v3 _ hv3 => ok_some.mpr ?_))
    obtain ⟨c1, c2, c3⟩ := hv3
    have f1 : FR [] [] [92] [91] v v3 := FR.tr a1 (FR.tr b1 c1)
    have f2 : FR [136, 138, 140, 150] [139] [89, 90, 92, 108, 109, 135, 142, 145, 146, 147] [88, 91, 93, 107, 134, 137, 141, 148] u v3 := FR.tr (FR.mo hv.2.1 (by decide) (by decide) (by decide) (by decide)) (FR.mo f1 (by decide) (by decide) (by decide) (by decide))
    have o1 : OTF p u v3 := OTF.tr (OTF_fr hv.2.1 (by decide)) (OTF.tr a2 (OTF.tr b2 c2))
    have h109 : ∀ y, A v3 109 y = A u 109 y ∨ A v3 109 y = 3 := fun y => by rw [FR.A f1 (by decide)]; exact MSG_109 hv
    have p0 := e.2.2.2.2.2.1
    exact finX e hG hm hx f2 (by decide) (by decide) (by decide) h98 (by have := h109 p; omega) (by rw [show ro (fr - 1) + (tH T q - 1) = ro (fr - 1) + (tH T q - 2) + 1 from by omega]; exact c3) (WLD_fr hw hT o1 f2 (by decide) (by decide) (fun z _ => h109 z)) (FR.mo f2 (by decide) (by decide) (by decide) (by decide))
  unfold fm_M_sendRun fb_M_sendRun_0
  have rs := so_r (u.2.2.2 91 (46000 * p + (ro (fr - 1) + tH T q - 1 - 1)))
  rw [show (1 : Int32) = I ((1 : Nat) : Int) from rfl, t1, bnd_so, sortOf_e, bnd_so, show (4 : Int32) = I 4 from rfl, decE rs.1 rs.2 (by omega) (by omega)]
  refine ok_br.mpr ⟨fun z4 => ?_, fun _ => ?_⟩
  · rw [valueOf_e, bnd_so]
    have e4 := of_decide_eq_true z4
    obtain ⟨z, z1, z2⟩ : ∃ z : Nat, z < PR ∧ va (u.2.2.2 91 (46000 * p + (ro (fr - 1) + tH T q - 1 - 1))) = z := by
      rcases g1 with ⟨-, y⟩ | ⟨y, -⟩
      · rcases y with y | y | y | y | ⟨-, y1, y2⟩
        · omega
        · omega
        · omega
        · omega
        · exact ⟨(va (u.2.2.2 91 (46000 * p + (ro (fr - 1) + tH T q - 1 - 1)))).toNat, by omega, by omega⟩
      · rcases y with y | y | y <;> omega
    rw [z2]
    exact y41 _ (Or.inr ⟨z, z1, rfl⟩)
  · rw [sortOf_e, bnd_so]
    refine ok_br.mpr ⟨fun _ => ?_, fun _ => y41 _ (Or.inl rfl)⟩
    rw [valueOf_e, bnd_so]
    refine ok_bnd.mpr (ok_mono (namedBy_ok (N := N) i.1 (by omega)) (fun v r hv => ?_))
    obtain ⟨v1, v2⟩ := hv
    subst v1
    exact y41 r v2
end
end
section
section
variable {Fv : Int64 → Int64 → Prop} {P P2 : Int64 → Prop} {u v w w2 x y : MS} {PR PR2 N p n n2 opM bnM bxM bx2 ND fr k tp mu CN PN SN UN FN rq q m h mm AN : Nat} {ow kd ow2 kd2 ro rn rh cb pc ct pM pE : Nat → Nat} {T : TY} {C : CY}
theorem RES_via {is ls as js : List Nat} (f : FR is ls as js u x) (o : OTF p u x) (r : RES Fv (PQ AN PR) PR T C ND CN p mu x y) (hw : WLD u T ND UN FN PR p) (hT : ∀ q, q < ND → tK T q ≤ 26) (hp : p < PR) (hi : ∀ k, k ∈ [125, 128] → k ∉ is) (ha : ∀ k, k ∈ 109 :: 116 :: 117 :: 123 :: 124 :: 127 :: 132 :: KP → k ∉ as) (h1 : ∀ k, k ∈ is → k ∈ [118, 119, 121, 125, 128, 136, 138, 140, 144, 150, 151, 152, 153, 154, 155, 156, 157, 158, 159, 165, 166, 169]) (h2 : ∀ k, k ∈ ls → k ∈ [139]) (h3 : ∀ k, k ∈ as → k ∈ [89, 90, 92, 94, 95, 96, 97, 98, 99, 100, 101, 102, 103, 104, 105, 106, 108, 109, 110, 112, 113, 114, 115, 116, 117, 122, 123, 124, 126, 127, 132, 135, 142, 143, 145, 146, 147, 160, 162, 168, 170]) (h4 : ∀ k, k ∈ js → k ∈ [88, 91, 93, 107, 111, 134, 137, 141, 148, 161, 163, 167]) : RSW Fv AN T C ND CN UN FN p mu u y :=
  RSW.pre (FR.mo f h1 h2 h3 h4) (RES_rsw r (WLD_fr hw hT o f hi (fun k hk => ha k (List.mem_cons_of_mem _ hk)) (fun z _ => Or.inl (FR.A f (ha _ (by decide))))) hT hp)
theorem PQ_pid {t : Int64} (g : GT n ow kd (PQ AN PR) t) (h4 : so t = 4) : ∃ z : Nat, z < PR ∧ va t = z := by
  rcases g with ⟨-, y⟩ | ⟨y, -⟩
  · rcases y with y | y | y | y | ⟨-, y1, y2⟩
    · omega
    · omega
    · omega
    · omega
    · exact ⟨(va t).toNat, by omega, by omega⟩
  · rcases y with y | y | y <;> omega
theorem br_t_of {α : Type} {b : Bool} {x y : α} (h : b = true) : br b x y = x := by rw [h]; rfl
theorem br_f_of {α : Type} {b : Bool} {x y : α} (h : b = false) : br b x y = y := by rw [h]; rfl
theorem isK113 : isK 113 4 = true := by decide
theorem nameR {k : Nat} (e : ERX Fv (PQ AN PR) PR T C ND CN p u fr ro rn rh cb pc ct q n ow kd (ro (fr - 1) + tH T q) (rn (fr - 1) + rh (fr - 1) + tM T q) bxM mu) (hp' : PGM Fv (PQ AN PR) PR T C pM pE ND CN PN SN UN FN u) (hw : WLD u T ND UN FN PR p) (hk : k = 13 ∨ k = 14 ∨ k = 15) (hq : tB T q + npre k ≤ tH T q) (hm : m < ND) (hx : NX T q m (tH T q + 1 - npre k) (tM T q)) (h98 : A u 98 (60 * p + (fr - 1)) = ((m : Nat) : Int)) (hN : 60000 ≤ N) : OK (fun v _ => RSW Fv AN T C ND CN UN FN p mu u v) (fm_M_nameRun N u (I k)) := by
  have i := e.1
  have x4 := MEI_p i
  have hH := (hp'.1.2.2.1 q e.2.2.1).1.1
  have hf := e.2.1.1
  have hro := (e.2.1.2.2.1 (fr - 1) (by omega)).2.2.2.2.1
  have hT := PRG_26 hp'.1
  have pr := i.1.1.2
  have nk : (k = 13 ∧ npre k = 2) ∨ (k ≠ 13 ∧ npre k = 1) := by rcases hk with z | z | z <;> subst z <;> decide
  have core : ∀ (v : MS) (t0 : Int64), ERX Fv (PQ AN PR) PR T C ND CN p v fr ro rn rh cb pc ct q n ow kd (ro (fr - 1) + (tH T q - npre k) + 1) (rn (fr - 1) + rh (fr - 1) + tM T q) bxM mu → (k = 13 → GT n ow kd (PQ AN PR) t0) → FR [] [] [92] [] u v → OTF p u v → OK (fun y _ => RSW Fv AN T C ND CN UN FN p mu u y) (fb_M_nameRun_14 N () v (I k) t0) := fun v t0 ev g0 fv ov => by
    unfold fb_M_nameRun_14
    refine ok_bnd.mpr (ok_mono (takeE (N := N) ev (by omega)) (fun w t hw' => ?_))
    obtain ⟨w1, gt, w3, w4⟩ := hw'
    have fw : FR [] [] [92] [] u w := FR.tr fv w3
    have ow' : OTF p u w := OTF.tr ov w4
    have dw := w1.1.1
    have er : OK (fun y _ => RSW Fv AN T C ND CN UN FN p mu u y) (bnd (fr_M_error N w 11) (fun u9 _ => fb_M_nameRun_236 N () u9)) := by
      unfold fb_M_nameRun_236
      exact ok_bnd.mpr (ok_mono (err_ok (N := N) (a := 11) w1 (PGM_fr hp' fw (by decide) (by decide)) (by omega) hN) (fun y _ hy => ok_some.mpr (RES_via fw ow' hy hw hT i.2.1 (by decide) (by decide) (by decide) (by decide) (by decide) (by decide))))
    have pt : ∀ x, FR [] [] [113] [] w x → ∀ t, GT n ow kd (PQ AN PR) t → OK (fun y _ => RSW Fv AN T C ND CN UN FN p mu u y) (bnd (fm_M_put N x t) (fun u3 _ => fb_M_nameRun_236 N () u3)) := fun x fx t gt => by
      unfold fb_M_nameRun_236
      have ix := MEI_fr w1.1 fx (by decide) (by decide) (by decide) (by decide) (by decide) (by decide) (by decide) (by decide) (by decide) (by decide) (by decide) (by decide) (by decide) (by decide) (by decide) (by decide) (by decide) (by decide)
      have ex := ERX_fr w1 fx (by decide) (by decide) (by decide) ix (by omega) (Nat.le_refl _)
      have fu : FR [] [] [92, 113] [] u x := FR.tr (FR.mo fw (by decide) (by decide) (by decide) (by decide)) (FR.mo fx (by decide) (by decide) (by decide) (by decide))
      exact ok_bnd.mpr (ok_mono (putR (N := N) ex hm hx (by rw [FR.A fu (by decide)]; exact h98) (by omega) rfl gt (by omega)) (fun y _ hy => ok_some.mpr (RES_via fu (OTF.tr ow' (OTF_fr fx (by decide))) hy hw hT i.2.1 (by decide) (by decide) (by decide) (by decide) (by decide) (by decide))))
    have y227 : ∀ (z : Nat) (t2 : Int32), z < PR → OK (fun y _ => RSW Fv AN T C ND CN UN FN p mu u y) (fb_M_nameRun_227 N () w 113 (I z) t2) := fun z t2 hz => by
      unfold fb_M_nameRun_227
      rw [isK113, ck_t]
      refine ok_ck.mpr ⟨inb_at (k := 113) (n := 24) rfl (by omega) (by omega) (by decide), ok_lt.mpr ?_⟩
      rw [I_tn (x := (z : Int)) (by omega) (by omega), Int.toNat_natCast, I_of t2, wa_e, truth1, bnd_so]
      exact pt _ (FR.wa FR.rf (by decide)) _ (GT_atom hp'.2.1 (by omega))
    have y146 : ∀ (v6 v7 : Int32), (v6 = I (-1) ∨ ∃ z : Nat, z < PR ∧ v6 = I z) → (v7 ≠ 0 → (k = 13 → so t0 = 4) ∧ (k = 14 → v6 ≠ I (-1))) → OK (fun y _ => RSW Fv AN T C ND CN UN FN p mu u y) (fb_M_nameRun_146 N () w (I k) t0 t v6 v7) := fun v6 v7 h6 h7 => by
      unfold fb_M_nameRun_146 fb_M_nameRun_212 fb_M_nameRun_187
      rw [show (15 : Int32) = I 15 from rfl, show (13 : Int32) = I 13 from rfl, decE (by omega) (by omega) (by omega) (by omega), decE (by omega) (by omega) (by omega) (by omega)]
      refine ok_br.mpr ⟨fun _ => er, fun z7 => ok_br.mpr ⟨fun _ => ok_br.mpr ⟨fun _ => ?_, fun z6 => ?_⟩, fun z15 => ok_br.mpr ⟨fun z13 => ?_, fun z13 => ?_⟩⟩⟩
      · rw [lit1q, show (3 : Int32) = I 3 from rfl, term_e, bnd_so]
        exact pt w FR.rf _ (GT_atom hp'.2.1 (by omega))
      · rcases h6 with h6 | ⟨z, hz, h6⟩
        · exact absurd h6 (of_decide_eq_false z6)
        · rw [h6, show (4 : Int32) = I 4 from rfl, term_e, bnd_so]
          exact pt w FR.rf _ (Or.inl ⟨nh_mk (by omega), hp'.2.1.2.1 z hz⟩)
      · have e13 : k = 13 := by have := of_decide_eq_true z13; omega
        obtain ⟨z, hz, ez⟩ := PQ_pid (g0 e13) ((h7 (of_decide_eq_false z7)).1 e13)
        rw [valueOf_e, bnd_so, br_t_of z13, valueOf_e, bnd_so, ez]
        exact y227 z _ hz
      · have e14 : k = 14 := by have := of_decide_eq_false z13; have := of_decide_eq_false z15; omega
        rcases h6 with h6 | ⟨z, hz, h6⟩
        · exact absurd h6 ((h7 (of_decide_eq_false z7)).2 e14)
        · rw [h6, br_f_of z13]
          exact y227 z _ hz
    have y59 : ∀ v6 : Int32, (v6 = I (-1) ∨ ∃ z : Nat, z < PR ∧ v6 = I z) → ∀ b : Int32, OK (fun y _ => RSW Fv AN T C ND CN UN FN p mu u y) (fb_M_nameRun_59 N () w (I k) t0 t v6 b) := fun v6 h6 b => by
      unfold fb_M_nameRun_59 fb_M_nameRun_116 fb_M_nameRun_143 fb_M_nameRun_117 fb_M_nameRun_144
      have y0 := y146 v6 0 h6 (fun z => absurd rfl z)
      rw [show (13 : Int32) = I 13 from rfl, show (14 : Int32) = I 14 from rfl, decE (by omega) (by omega) (by omega) (by omega), decE (by omega) (by omega) (by omega) (by omega)]
      refine ok_br.mpr ⟨fun z13 => ok_br.mpr ⟨fun _ => y0, fun _ => ok_br.mpr ⟨fun _ => ?_, fun _ => y0⟩⟩, fun z13 => ok_br.mpr ⟨fun z14 => ok_br.mpr ⟨fun _ => y0, fun _ => ok_br.mpr ⟨fun _ => y0, fun z6 => ?_⟩⟩, fun z14 => ?_⟩⟩
      · have e13 : k = 13 := by have := of_decide_eq_true z13; omega
        have r0 := so_r t0
        rw [sortOf_e, bnd_so, show (4 : Int32) = I 4 from rfl, decE r0.1 r0.2 (by omega) (by omega)]
        refine ok_br.mpr ⟨fun z4 => ?_, fun _ => y0⟩
        have e4 := of_decide_eq_true z4
        obtain ⟨z, hz, ez⟩ := PQ_pid (g0 e13) e4
        rw [valueOf_e, bnd_so, ez]
        refine ok_ck.mpr ⟨inb_at (k := 109) (n := 24) rfl (by omega) (by omega) (by decide), ok_br.mpr ⟨fun _ => y0, fun _ => ?_⟩⟩
        rw [valueOf_e, bnd_so, ez]
        exact ok_ck.mpr ⟨inb_at (k := 113) (n := 24) rfl (by omega) (by omega) (by decide), ok_br.mpr ⟨fun _ => y146 v6 1 h6 (fun _ => ⟨fun _ => e4, fun z => by omega⟩), fun _ => y0⟩⟩
      · exact y146 v6 1 h6 (fun _ => ⟨fun z => by have := of_decide_eq_false z13; omega, fun _ => of_decide_eq_false z6⟩)
      · have := of_decide_eq_false z13
        have := of_decide_eq_false z14
        exact y146 v6 b h6 (fun _ => ⟨fun z => by omega, fun z => by omega⟩)
    have y43 : ∀ v6 : Int32, (v6 = I (-1) ∨ ∃ z : Nat, z < PR ∧ v6 = I z) → OK (fun y _ => RSW Fv AN T C ND CN UN FN p mu u y) (fb_M_nameRun_43 N () w (I k) t0 t v6) := fun v6 h6 => by
      unfold fb_M_nameRun_43
      rw [sortOf_e, bnd_so]
      exact ok_br.mpr ⟨fun _ => y59 v6 h6 1, fun _ => y59 v6 h6 0⟩
    rw [sortOf_e, bnd_so]
    refine ok_br.mpr ⟨fun _ => ?_, fun _ => y43 _ (Or.inl rfl)⟩
    rw [valueOf_e, bnd_so]
    refine ok_bnd.mpr (ok_mono (namedBy_ok (N := N) dw (by omega)) (fun x r hx' => ?_))
    obtain ⟨x1, x2⟩ := hx'
    subst x1
    exact y43 r x2
  unfold fm_M_nameRun fb_M_nameRun_0
  rw [show (13 : Int32) = I 13 from rfl, decE (by omega) (by omega) (by omega) (by omega)]
  refine ok_br.mpr ⟨fun z13 => ?_, fun z13 => ?_⟩
  · have e13 : k = 13 := by have := of_decide_eq_true z13; omega
    have n2 : npre k = 2 := by omega
    have e' := e
    rw [show ro (fr - 1) + tH T q = ro (fr - 1) + (tH T q - npre k) + 1 + 1 from by omega] at e'
    refine ok_bnd.mpr (ok_mono (takeE (N := N) e' (by omega)) (fun v t hv => ?_))
    obtain ⟨v1, gt, v3, v4⟩ := hv
    exact core v t v1 (fun _ => gt) v3 v4
  · have e13 : k ≠ 13 := by have := of_decide_eq_false z13; omega
    have e' := e
    rw [show ro (fr - 1) + tH T q = ro (fr - 1) + (tH T q - npre k) + 1 from by omega] at e'
    exact core u 0 e' (fun z => absurd z e13) FR.rf (OTF_fr (FR.rf : FR [] [] [] [] u u) (by decide))
end
end
section
section
variable {Fv : Int64 → Int64 → Prop} {P P2 : Int64 → Prop} {u v w w2 x y : MS} {PR PR2 N p n n2 opM bnM bxM bx2 ND fr k tp mu CN PN SN UN FN rq q m h mm AN : Nat} {ow kd ow2 kd2 ro rn rh cb pc ct pM pE : Nat → Nat} {T : TY} {C : CY}
theorem DW_24 (d : DW Fv P PR u) (hE : F u 149 = F u 150) (f : FR [] [] [89, 142] [88, 141] u w) (h89 : ∀ q, q ≠ 24 → A w 89 q = A u 89 q) (h88 : ∀ i, i < 12000 → w.2.2.2 88 i = u.2.2.2 88 i) (g : ∃ n ow kd, A w 89 24 = ((n : Nat) : Int) ∧ n ≤ 500 ∧ HP (hp w 24) n ow kd Fv P) : DW Fv P PR w := by
  obtain ⟨⟨d1, d1'⟩, d2, -, d4, ⟨eF, eM, e1, e2, e3, e4, e5⟩, d6⟩ := d
  refine ⟨⟨by rw [FR.F f (by decide)]; exact d1, d1'⟩, fun z hz => ?_, g, by rw [FR.F f (by decide)]; exact d4, ⟨eF, eM, by rw [FR.F f (by decide)]; exact e1, by rw [FR.F f (by decide)]; exact e2, e3, by rw [cE_eq PR (fun p _ => FR.A f (by decide))]; exact e4, fun i h1 h2 => by omega⟩, fun z hz => by rw [FR.A f (by decide)]; exact d6 z hz⟩
  obtain ⟨n, ow, kd, o2, b2, bx, a, x1, x2, x3, x4, x5, x6, x7, x8, x9, x10, x11⟩ := d2 z hz
  exact ⟨n, ow, kd, o2, b2, bx, by rw [h89 z (by omega)]; exact a, rfl, HP_own x2 (Nat.le_refl _) (fun i hi _ => by unfold hp; exact h88 _ (by omega)) (fun _ _ _ => rfl) (fun _ _ _ => rfl) (fun i hi e => ⟨hi, e⟩), x3, x4, by rw [FR.A f (by decide)]; exact x5, by rw [FR.A f (by decide)]; exact x6, by rw [FR.A f (by decide)]; exact x7, fun i hi => by rw [f.2.2.2 91 (by decide)]; exact x8 i hi, fun i hi => by rw [f.2.2.2 93 (by decide)]; exact x9 i hi, fun i hi => by rw [f.2.2.2 107 (by decide)]; exact x10 i hi, fun e => by rw [FR.F f (by decide), d4] at e; omega⟩
theorem copy24 {t : Int64} {f s : Nat} (i : MEI Fv P PR u p n ow kd opM bnM bxM) (hE : F u 149 = F u 150) (z : SZ (hp u p) n ow kd Fv P f t s) (hs : s ≤ 500) (hN : 3000 ≤ N) : OK (fun w r => DW Fv P PR w ∧ FR [] [] [89, 142] [88, 141] u w ∧ ((¬ isH r ∧ P r) ∨ (isH r ∧ GTP Fv P w 24 r))) (fm_M_copy N (wa u 89 24 0) (I p) t (I 24)) := by
  have x4 := MEI_p i
  have hg := i.2.2.2.2.2.2.1
  have n500 : n ≤ 500 := i.2.2.2.2.2.2.2.1
  have f1 : FR [] [] [89, 142] [88, 141] u (wa u 89 24 0) := FR.wa FR.rf (by decide)
  have a89 : ∀ q, A (wa u 89 24 0) 89 q = if q = 24 then 0 else A u 89 q := fun q => A_eq (by omega) (by omega)
  have hp1 : hp (wa u 89 24 0) p = hp u p := rfl
  have j88 : (wa u 89 24 0).2.2.2 88 = u.2.2.2 88 := rfl
  generalize wa u 89 24 0 = v at *
  refine ok_mono (copy_ok (N := N) (fr := p) (to := 24) (n0 := 0) (s := s) (by omega) (by omega) n500 (by omega) (fun e => by omega) (by rw [hp1]; exact hg) (by rw [hp1]; exact z) (by rw [a89, if_pos rfl]; rfl) hN) (fun w2 r hc => ?_)
  obtain ⟨c1, c2, c3, cc, st, src, oo, c4, c5⟩ := hc
  rw [hp1] at c4
  obtain ⟨ow2, kd2, g1, g2, g3, g4, g5⟩ := CPI_end (hD := hp v 24) hg (HP_none (Fv := Fv) (P := P) (h := hp v 24)) c4 (fun z hz => absurd hz (Nat.not_lt_zero z))
  have fu : FR [] [] [89, 142] [88, 141] u w2 := FR.tr f1 c1
  have sz := g4 f r t s c5 z
  have d2 : DW Fv P PR w2 := DW_24 i.1 hE fu (fun q hq => by rw [c2, if_neg hq, a89, if_neg hq]) (fun i hi => by rw [c3 i (by omega), j88]) ⟨0 + s, ow2, kd2, by rw [c2, if_pos rfl], by omega, g1⟩
  refine ⟨d2, fu, ?_⟩
  have gt := SZ_gt sz
  by_cases e : isH r
  · exact Or.inr ⟨e, 0 + s, ow2, kd2, by rw [c2, if_pos rfl], by omega, g1, gt⟩
  · rcases gt with gt | gt
    · exact Or.inl gt
    · exact absurd gt.1 e
theorem exit_ok {z s f : Nat} {t : Int64} (i : MEI Fv P PR u p n ow kd opM bnM bxM) (hPB : PB P PR) (hE : F u 149 = F u 150) (hz : z < PR) (sz : SZ (hp u p) n ow kd Fv P f t s) (hs : s ≤ 500) (hN : 60000 ≤ N) : OK (fun w _ => DW Fv P PR w ∧ EVF u w) (fm_M_exitRun N u (I z) t) := by
  have x4 := MEI_p i
  have pr := i.1.1.2
  have y84 : OK (fun w _ => DW Fv P PR w ∧ EVF u w) (fb_M_exitRun_84 N () u (I z) t) := by
    unfold fb_M_exitRun_84 fb_M_exitRun_111
    rw [show (24 : Int32) = I 24 from rfl]
    refine ok_ck.mpr ⟨inb_at (k := 89) (n := 25) rfl (by omega) (by omega) (by decide), ok_lt.mpr ?_⟩
    rw [I_tn (by omega) (by omega), show (24 : Int).toNat = 24 from rfl, lit0q, wa_e, show (wa u 89 24 0).1 133 = I p from I_F' i.2.2.1]
    refine ok_bnd.mpr (ok_mono (copy24 (N := N) i hE sz hs (by omega)) (fun v r hv => ?_))
    obtain ⟨v1, v2, v3⟩ := hv
    refine ok_bnd.mpr (ok_mono (willEnd_ok (N := N) (p := z) (o := 24) (wr := 0) v1 hz (by omega) (by omega) (by
      rcases v3 with v3 | ⟨v3, v4⟩
      · exact Or.inl v3
      · exact Or.inr ⟨v3, Or.inl rfl, v4⟩)) (fun w _ hw => ok_some.mpr ?_))
    obtain ⟨w1, w2, w3, w4⟩ := hw
    refine ⟨w1, FR.tr (FR.mo v2 (by decide) (by decide) (by decide) (by decide)) (FR.mo w2 (by decide) (by decide) (by decide) (by decide)), fun y => ?_⟩
    by_cases e : y = z
    · rw [e]; exact Or.inr w3
    · rw [w4 y e, FR.A v2 (by decide)]; exact Or.inl rfl
  unfold fm_M_exitRun fb_M_exitRun_0
  refine ok_ck.mpr ⟨inb_at (k := 109) (n := 24) rfl (by omega) (by omega) (by decide), ok_br.mpr ⟨fun _ => ok_some.mpr ⟨i.1, EVF.rf⟩, fun z3 => ?_⟩⟩
  have e3 : A u 109 z ≠ 3 := fun e => by
    have := of_decide_eq_false z3
    rw [I_tn (by omega) (by omega), Int.toNat_natCast, I_A' e] at this
    exact this rfl
  rw [lit1q, show (5 : Int32) = I 5 from rfl, term_e, bnd_so]
  refine ok_br.mpr ⟨fun _ => ?_, fun _ => ok_ck.mpr ⟨inb_at (k := 112) (n := 24) rfl (by omega) (by omega) (by decide), ok_br.mpr ⟨fun _ => ok_br.mpr ⟨fun _ => y84, fun _ => ?_⟩, fun _ => ?_⟩⟩⟩
  · rw [show (6 : Int32) = I 6 from rfl, term_e, bnd_so, lit0q]
    unfold fb_M_exitRun_111
    refine ok_bnd.mpr (ok_mono (willEnd_ok (N := N) (p := z) (o := z) (wr := 0) i.1 hz (by omega) (by omega) (Or.inl ⟨nh_mk (by omega), hPB.1 6 (by omega) (by omega)⟩)) (fun w _ hw => ok_some.mpr ?_))
    obtain ⟨w1, w2, w3, w4⟩ := hw
    refine ⟨w1, FR.mo w2 (by decide) (by decide) (by decide) (by decide), fun y => ?_⟩
    by_cases e : y = z
    · rw [e]; exact Or.inr w3
    · exact Or.inl (w4 y e)
  · rw [show (4 : Int32) = I 4 from rfl, term_e, bnd_so]
    unfold fb_M_exitRun_111
    exact ok_br.mpr ⟨fun _ => ok_some.mpr ⟨i.1, EVF.rf⟩, fun _ => y84⟩
  · rw [show (0 : Int32) = I ((0 : Nat) : Int) from rfl, I_F' i.2.2.1]
    unfold fb_M_exitRun_111
    exact ok_bnd.mpr (ok_mono (message_ok (N := N) (sort := 0) (p := p) (r := 0) (wr := 0) (o := p) i.1 hz hPB (by omega) (fun _ => i.2.1) (by omega) (by omega) (by omega) (fun _ => TM_me i (SZ_gt sz)) hN) (fun w _ hw => ok_some.mpr ⟨hw.1, MSG_evf hw⟩))
theorem il_loop {z : Nat} (h133 : F w 133 = p) (l : LKR w PR p) (hp : p < 24) (hz : z < 24) : ∀ (m k : Nat), (k : Int) ≤ A w 117 p → (A w 117 p).toNat - k < m → (∀ j, j < k → A w 116 (24 * p + j) ≠ z) → OK (fun w2 r => w2 = w ∧ (r = I 1 ∨ (r = I 0 ∧ ¬ inL w p z))) (gg_M_isLinked N m w (I z) (I k)) := by
  intro m
  induction m with
  | zero => intro k _ h; omega
  | succ m ih =>
    intro k hk hm ho
    have l2 := l.2.1
    show OK _ (fb_M_isLinked_2 N (gg_M_isLinked N m) w (I z) (I k))
    unfold fb_M_isLinked_2
    rw [I_F' h133]
    refine ok_ck.mpr ⟨inb_at (k := 117) (n := 24) rfl (by omega) (by omega) (by decide), ?_⟩
    have r6 := A_r w 116 (24 * p + k)
    have r7 := A_r w 117 p
    rw [I_tn (x := (p : Int)) (by omega) (by omega), Int.toNat_natCast, I_A (k := 117), decI r7.1 r7.2 (by omega) (by omega)]
    refine ok_br.mpr ⟨fun y => ok_ck.mpr ⟨rfl, ok_some.mpr ⟨rfl, Or.inr ⟨rfl, fun ⟨j, j1, j2⟩ => ho j (by have := of_decide_eq_true y; omega) j2⟩⟩⟩, fun y => ?_⟩
    have y' := of_decide_eq_false y
    rw [show (24 : Int32) = I 24 from rfl, I_mul, I_add]
    refine ok_ck.mpr ⟨inb_at (k := 116) (n := 576) rfl (by omega) (by omega) (by decide), ?_⟩
    rw [I_tn (x := 24 * (p : Int) + (k : Int)) (by omega) (by omega), show (24 * (p : Int) + (k : Int)).toNat = 24 * p + k from by omega, I_A (k := 116), decE r6.1 r6.2 (by omega) (by omega)]
    refine ok_br.mpr ⟨fun _ => ok_ck.mpr ⟨rfl, ok_some.mpr ⟨rfl, Or.inl rfl⟩⟩, fun y2 => ?_⟩
    rw [lit1q, I_add, show (k : Int) + 1 = ((k + 1 : Nat) : Int) from by omega]
    refine ih (k + 1) (by omega) (by omega) (fun j hj => ?_)
    by_cases e : j = k
    · subst e; exact of_decide_eq_false y2
    · exact ho j (by omega)
theorem isLinked_ok {z : Nat} (h133 : F w 133 = p) (l : LKR w PR p) (hp : p < 24) (hz : z < 24) (hN : 100 ≤ N) : OK (fun w2 r => w2 = w ∧ (r = I 1 ∨ (r = I 0 ∧ ¬ inL w p z))) (fm_M_isLinked N w (I z)) := by
  have l1 := l.1
  have l2 := l.2.1
  unfold fm_M_isLinked fb_M_isLinked_0
  exact il_loop (N := N) h133 l hp hz N 0 (by omega) (by omega) (fun j hj => absurd hj (Nat.not_lt_zero j))
theorem LKR_room {z : Nat} (l : LKR w PR p) (pr : PR ≤ 24) (hz : z < PR) (hne : z ≠ p) (hp : p < PR) (hn : ¬ inL w p z) : A w 117 p < 23 := by
  obtain ⟨l1, l2, l3, l4⟩ := l
  have hz' : ∀ j : Nat, (j : Int) < A w 117 p → A w 116 (24 * p + j) ≠ z := fun j hj e => hn ⟨j, hj, e⟩
  have := pig 24 ((A w 117 p).toNat + 2) (fun j => if j = (A w 117 p).toNat then z else if j = (A w 117 p).toNat + 1 then p else (A w 116 (24 * p + j)).toNat) (fun j hj => by
    by_cases e1 : j = (A w 117 p).toNat
    · simp only [if_pos e1]; omega
    · by_cases e2 : j = (A w 117 p).toNat + 1
      · simp only [if_neg e1, if_pos e2]; omega
      · simp only [if_neg e1, if_neg e2]; have := l3 j (by omega); omega) (fun a b ha hb e => by
    by_cases a1 : a = (A w 117 p).toNat
    · by_cases b1 : b = (A w 117 p).toNat
      · omega
      · by_cases b2 : b = (A w 117 p).toNat + 1
        · simp only [if_pos a1, if_neg b1, if_pos b2] at e; omega
        · simp only [if_pos a1, if_neg b1, if_neg b2] at e; have := l3 b (by omega); have := hz' b (by omega); omega
    · by_cases a2 : a = (A w 117 p).toNat + 1
      · by_cases b1 : b = (A w 117 p).toNat
        · simp only [if_neg a1, if_pos a2, if_pos b1] at e; omega
        · by_cases b2 : b = (A w 117 p).toNat + 1
          · omega
          · simp only [if_neg a1, if_pos a2, if_neg b1, if_neg b2] at e; have := l3 b (by omega); omega
      · by_cases b1 : b = (A w 117 p).toNat
        · simp only [if_neg a1, if_neg a2, if_pos b1] at e; have := l3 a (by omega); have := hz' a (by omega); omega
        · by_cases b2 : b = (A w 117 p).toNat + 1
          · simp only [if_neg a1, if_neg a2, if_neg b1, if_pos b2] at e; have := l3 a (by omega); omega
          · simp only [if_neg a1, if_neg a2, if_neg b1, if_neg b2] at e
            have := l3 a (by omega)
            have := l3 b (by omega)
            exact l4 a b (by omega) (by omega) (by omega))
  omega
theorem LKR_add {z : Nat} (l : LKR w PR p) (hz : z < PR) (hne : z ≠ p) (hn : ¬ inL w p z) (h6 : A w2 116 (24 * p + (A w 117 p).toNat) = z) (h6' : ∀ j : Nat, (j : Int) < A w 117 p → A w2 116 (24 * p + j) = A w 116 (24 * p + j)) (h7 : A w2 117 p = A w 117 p + 1) (h23 : A w 117 p < 23) : LKR w2 PR p ∧ ∀ y, inL w2 p y ↔ (inL w p y ∨ y = z) := by
  obtain ⟨l1, l2, l3, l4⟩ := l
  have cell : ∀ j : Nat, (j : Int) < A w2 117 p → (A w2 116 (24 * p + j) = z ∧ j = (A w 117 p).toNat) ∨ ((j : Int) < A w 117 p ∧ A w2 116 (24 * p + j) = A w 116 (24 * p + j)) := fun j hj => by
    by_cases e : j = (A w 117 p).toNat
    · subst e; exact Or.inl ⟨h6, rfl⟩
    · exact Or.inr ⟨by omega, h6' j (by omega)⟩
  refine ⟨⟨by omega, by omega, fun j hj => ?_, fun j k hj hk e => ?_⟩, fun y => ⟨fun ⟨j, hj, ej⟩ => ?_, fun hy => ?_⟩⟩
  · rcases cell j hj with ⟨c, -⟩ | ⟨c1, c2⟩
    · omega
    · rw [c2]; exact l3 j c1
  · rcases cell j hj with ⟨c, cj⟩ | ⟨c1, c2⟩
    · rcases cell k hk with ⟨d, dk⟩ | ⟨d1, d2⟩
      · omega
      · exact absurd ⟨k, d1, by omega⟩ hn
    · rcases cell k hk with ⟨d, dk⟩ | ⟨d1, d2⟩
      · exact absurd ⟨j, c1, by omega⟩ hn
      · exact l4 j k c1 d1 (by omega)
  · rcases cell j hj with ⟨c, cj⟩ | ⟨c1, c2⟩
    · exact Or.inr (by omega)
    · exact Or.inl ⟨j, c1, by omega⟩
  · rcases hy with ⟨j, j1, j2⟩ | hy
    · exact ⟨j, by omega, by rw [h6' j j1]; exact j2⟩
    · exact ⟨(A w 117 p).toNat, by omega, by rw [h6]; omega⟩
end
end
section
section
variable {Fv : Int64 → Int64 → Prop} {P P2 : Int64 → Prop} {u v w w2 x y : MS} {PR PR2 N p n n2 opM bnM bxM bx2 ND fr k tp mu CN PN SN UN FN rq q m h mm AN : Nat} {ow kd ow2 kd2 ro rn rh cb pc ct pM pE : Nat → Nat} {T : TY} {C : CY}
theorem fin_ev (e : ERX Fv (PQ AN PR) PR T C ND CN p u fr ro rn rh cb pc ct q n ow kd opM bnM bxM mu) (hw : WLD u T ND UN FN PR p) (hT : ∀ q, q < ND → tK T q ≤ 26) (hG : tG T q = 0) (hm : m < ND) (hx : NX T q m h mm) (h98 : A u 98 (60 * p + (fr - 1)) = ((m : Nat) : Int)) (f : FR [121, 150] [] [92, 109] [91, 141] u y) (o : OTF p u y) (h109 : ∀ z, A y 109 z = A u 109 z) (i : MEI Fv (PQ AN PR) PR y p n ow kd (ro (fr - 1) + h) (rn (fr - 1) + rh (fr - 1) + mm) bxM) (d : DW Fv (PQ AN PR) PR v) (ev : EVF y v) : RSW Fv AN T C ND CN UN FN p mu u v := by
  obtain ⟨ev1, ev2⟩ := ev
  obtain ⟨n2, ow2, kd2, bx2, ix⟩ := MEX_of (opM := ro (fr - 1) + h) (bnM := rn (fr - 1) + rh (fr - 1) + mm) d i.2.1 (by rw [FR.F ev1 (by decide)]; exact i.2.2.1) (by rw [FR.A ev1 (by decide)]; exact i.2.2.2.2.2.2.2.2.2.1.1) (by rw [FR.A ev1 (by decide)]; exact i.2.2.2.2.2.2.2.2.2.2.1.1)
  have f2 : FR [121, 136, 138, 140, 150] [139] [89, 90, 92, 108, 109, 135, 142, 145, 146, 147] [88, 91, 93, 107, 134, 137, 141, 148] u v := FR.tr (FR.mo f (by decide) (by decide) (by decide) (by decide)) (FR.mo ev1 (by decide) (by decide) (by decide) (by decide))
  have o2 : OTF p u v := OTF.tr o (OTF_fr ev1 (by decide))
  have h9 : ∀ z, A v 109 z = A u 109 z ∨ A v 109 z = 3 := fun z => by rw [← h109 z]; exact ev2 z
  have p0 := e.2.2.2.2.2.1
  exact finX e hG hm hx f2 (by decide) (by decide) (by decide) h98 (by have := h9 p; omega) ix (WLD_fr hw hT o2 f2 (by decide) (by decide) (fun z _ => h9 z)) (FR.mo f2 (by decide) (by decide) (by decide) (by decide))
theorem fin_lk (e : ERX Fv (PQ AN PR) PR T C ND CN p u fr ro rn rh cb pc ct q n ow kd opM bnM bxM mu) (hw : WLD u T ND UN FN PR p) (hT : ∀ q, q < ND → tK T q ≤ 26) (hG : tG T q = 0) (hm : m < ND) (hx : NX T q m h mm) (h98 : A u 98 (60 * p + (fr - 1)) = ((m : Nat) : Int)) (f : FR [121] [] [92] [91, 141] u y) (o : OTF p u y) (i : MEI Fv (PQ AN PR) PR y p n ow kd (ro (fr - 1) + h) (rn (fr - 1) + rh (fr - 1) + mm) bxM) (fv : FR [125] [] [116, 117, 122, 123, 124] [] y v) (lk : LK v PR) (wt : WTQ v PR) : RSW Fv AN T C ND CN UN FN p mu u v := by
  have f2 : FR [121, 125] [] [92, 116, 117, 122, 123, 124] [91, 141] u v := FR.tr (FR.mo f (by decide) (by decide) (by decide) (by decide)) (FR.mo fv (by decide) (by decide) (by decide) (by decide))
  have o2 : OTF p u v := OTF.tr o (OTF_fr fv (by decide))
  have iv := MEI_fr i fv (by decide) (by decide) (by decide) (by decide) (by decide) (by decide) (by decide) (by decide) (by decide) (by decide) (by decide) (by decide) (by decide) (by decide) (by decide) (by decide) (by decide) (by decide)
  have wv : WLD v T ND UN FN PR p := WLD_otf hw hT o2 (fun k hk j => FR.A f2 (by revert hk; unfold KP; simp; omega)) (fun z _ => Or.inl (FR.A f2 (by decide))) lk wt (by rw [FR.F f2 (by decide)]; exact hw.2.2.1) (fun j => by rw [FR.A f2 (by decide)]; exact hw.2.2.2.1 j) (fun j => by rw [FR.A f2 (by decide)]; exact hw.2.2.2.2.2.1 j)
  exact finX e hG hm hx f2 (by decide) (by decide) (by decide) h98 (Or.inl (by rw [FR.A f2 (by decide)]; exact e.2.2.2.2.2.1)) (MEI_x iv) wv (FR.mo f2 (by decide) (by decide) (by decide) (by decide))
def SZL (h : Nat → Int64) (n : Nat) (ow kd : Nat → Nat) (Fv : Int64 → Int64 → Prop) (P : Int64 → Prop) (t : Int64) : Prop := ∃ f s, SZ h n ow kd Fv P f t s ∧ s ≤ 500
theorem isK92 : isK 92 4 = true := by decide
theorem LK_self (pr : PR ≤ 24) (hp1 : p < PR) (l : LK w PR) (a : RML w p p v) (ka : LKR v PR p) : LK v PR := by
  obtain ⟨a1, a2, a3, a4, a5, a6, a7⟩ := a
  have np : ∀ x, x < PR → ¬ inL w x x := fun x hx ⟨k, k1, k2⟩ => ((l.1 x hx).2.2.1 k k1).2.2 k2
  have eX : ∀ x y, x < PR → x ≠ p → (inL v x y ↔ inL w x y) := fun x y hx h1 => inL_same (l.1 x hx) (a2 x h1) (fun k hk => a3 _ (by omega))
  have eP : ∀ y, y < PR → (inL v p y ↔ inL w p y) := fun y hy => by
    by_cases e : y = p
    · subst e; exact ⟨fun z => absurd z a6, fun z => absurd z (np y hy)⟩
    · exact a7 y e
  refine ⟨fun x hx => ?_, fun x y hx hy z => ?_⟩
  · by_cases e : x = p
    · rw [e]; exact ka
    · exact LKR_same (l.1 x hx) (a2 x e) (fun k hk => a3 _ (by omega))
  · by_cases e1 : x = p
    · subst e1
      have := l.2 x y hx hy ((eP y hy).mp z)
      by_cases e2 : y = x
      · subst e2; exact z
      · exact (eX y x hy e2).mpr this
    · have := l.2 x y hx hy ((eX x y hx e1).mp z)
      by_cases e2 : y = p
      · subst e2; exact (eP x hx).mpr this
      · exact (eX y x hy e2).mpr this
set_option maxRecDepth 100000 in
theorem procR {k : Nat} (e : ERX Fv (PQ AN PR) PR T C ND CN p u fr ro rn rh cb pc ct q n ow kd (ro (fr - 1) + tH T q) (rn (fr - 1) + rh (fr - 1) + tM T q) bxM mu) (hp' : PGM Fv (PQ AN PR) PR T C pM pE ND CN PN SN UN FN u) (hw : WLD u T ND UN FN PR p) (hE : F u 149 = F u 150) (hG : tG T q = 0) (hk : k = 2 ∨ k = 3 ∨ k = 4 ∨ k = 8 ∨ k = 16) (hq : tB T q + npre k ≤ tH T q) (hm : m < ND) (hx : NX T q m (tH T q + 1 - npre k) (tM T q)) (h98 : A u 98 (60 * p + (fr - 1)) = ((m : Nat) : Int)) (hN : 60000 ≤ N) : OK (fun v _ => RSW Fv AN T C ND CN UN FN p mu u v) (fm_M_processRun N u (I k)) := by
  have i := e.1
  have x4 := MEI_p i
  have hH := (hp'.1.2.2.1 q e.2.2.1).1.1
  have hf := e.2.1.1
  have hro := (e.2.1.2.2.1 (fr - 1) (by omega)).2.2.2.2.1
  have hT := PRG_26 hp'.1
  have pr := i.1.1.2
  have hg := i.2.2.2.2.2.2.1
  have n500 : n ≤ 500 := i.2.2.2.2.2.2.2.1
  obtain ⟨lk, wt, -, -, -, -, -⟩ := id hw
  have nk : (k = 8 ∧ npre k = 2) ∨ (k ≠ 8 ∧ npre k = 1) := by rcases hk with z | z | z | z | z <;> subst z <;> decide
  have pid : ∀ z : Nat, z < PR → GT n ow kd (PQ AN PR) (mk 4 z) := fun z hz => Or.inl ⟨nh_mk (by omega), hp'.2.1.2.1 z hz⟩
  have y151 : ∀ (v : MS) (z : Nat) (t : Int64) (b : Int32), z < PR → b = I (npre k : Int) → FR [] [] [] [141] u v → (k = 8 → SZL (hp u p) n ow kd Fv (PQ AN PR) t) → (k = 4 → F u 125 ≠ 200) → OK (fun y _ => RSW Fv AN T C ND CN UN FN p mu u y) (fb_M_processRun_151 N () v (I k) t (I z) 92 (v.1 133) (v.2.2.1 92 (v.1 133).toNatClampNeg) b) := fun v z t b hz hb fv hsz h125 => by
    have iv : MEI Fv (PQ AN PR) PR v p n ow kd (ro (fr - 1) + tH T q) (rn (fr - 1) + rh (fr - 1) + tM T q) bxM := MEI_fr i fv (by decide) (by decide) (by decide) (by decide) (by decide) (by decide) (by decide) (by decide) (by decide) (by decide) (by decide) (by decide) (by decide) (by decide) (by decide) (by decide) (by decide) (by decide)
    unfold fb_M_processRun_151
    rw [isK92, ck_t, I_F' iv.2.2.1]
    refine ok_ck.mpr ⟨inb_at (k := 92) (n := 24) rfl (by omega) (by omega) (by decide), ok_lt.mpr ?_⟩
    rw [I_tn (x := (p : Int)) (by omega) (by omega), Int.toNat_natCast, I_A' iv.2.2.2.2.2.2.2.2.2.1.1, hb, I_sub, show ((ro (fr - 1) + tH T q : Nat) : Int) - (npre k : Int) = ((ro (fr - 1) + (tH T q - npre k) : Nat) : Int) from by omega, wa_e]
    have ix := ops_less iv (k := ro (fr - 1) + (tH T q - npre k)) (by omega)
    have fx : FR [] [] [92] [141] u (wa v 92 p ((ro (fr - 1) + (tH T q - npre k) : Nat) : Int)) := FR.wa (FR.mo fv (by decide) (by decide) (by decide) (by decide)) (by decide)
    have ox : OTF p u (wa v 92 p ((ro (fr - 1) + (tH T q - npre k) : Nat) : Int)) := OTF.tr (OTF_fr fv (by decide)) (OTF_at (FR.wa FR.rf (by decide) : FR [] [] [92] [] v _) (i0 := p) (fun j hj => by rw [A_eq (by omega) (by omega), if_neg hj]) (Or.inl ⟨by decide, rfl⟩))
    generalize wa v 92 p ((ro (fr - 1) + (tH T q - npre k) : Nat) : Int) = x at *
    have ex := ERX_fr e fx (by decide) (by decide) (by decide) ix (by omega) (Nat.le_refl _)
    have x98 : A x 98 (60 * p + (fr - 1)) = ((m : Nat) : Int) := by rw [FR.A fx (by decide)]; exact h98
    have hh : ro (fr - 1) + (tH T q - npre k) + 1 = ro (fr - 1) + (tH T q + 1 - npre k) := by omega
    have pt : ∀ (t : Int64) (w : MS), FR [121] [] [] [] x w → GT n ow kd (PQ AN PR) t → OK (fun y _ => FR [121] [] [92] [91, 141] u y ∧ OTF p u y ∧ MEI Fv (PQ AN PR) PR y p n ow kd (ro (fr - 1) + (tH T q + 1 - npre k)) (rn (fr - 1) + rh (fr - 1) + tM T q) bxM) (fm_M_put N w t) := fun t w fw gt => by
      have iw := MEI_ints ix fw (by decide)
      refine ok_mono (put_ok (N := N) iw gt (by omega)) (fun y _ hy => ?_)
      obtain ⟨y1, y2⟩ := hy
      have fy : FR [] [] [92] [91] w y := by rw [y1]; exact FR.wa (FR.wj FR.rf (by decide)) (by decide)
      refine ⟨FR.tr (FR.mo fx (by decide) (by decide) (by decide) (by decide)) (FR.tr (FR.mo fw (by decide) (by decide) (by decide) (by decide)) (FR.mo fy (by decide) (by decide) (by decide) (by decide))), OTF.tr ox (OTF.tr (OTF_fr fw (by decide)) (OTF_at (k0 := 92) fy (i0 := p) (fun j hj => by rw [y1, A_eq (by omega) (by omega), if_neg hj]; rfl) (Or.inl ⟨by decide, rfl⟩))), by rw [← hh]; exact y2⟩
    rw [show (16 : Int32) = I 16 from rfl, show (4 : Int32) = I 4 from rfl, show (8 : Int32) = I 8 from rfl, show (3 : Int32) = I 3 from rfl, decE (by omega) (by omega) (by omega) (by omega), decE (x := (k : Int)) (y := 4) (by omega) (by omega) (by omega) (by omega), decE (x := (k : Int)) (y := 8) (by omega) (by omega) (by omega) (by omega), decE (x := (k : Int)) (y := 3) (by omega) (by omega) (by omega) (by omega)]
    unfold fb_M_processRun_305 fb_M_processRun_480
    have in9 : inb (I (z : Int)) (ln 109) = true := inb_at (k := 109) (n := 24) rfl (by omega) (by omega) (by decide)
    refine ok_br.mpr ⟨fun _ => ?_, fun _ => ok_br.mpr ⟨fun z4 => ok_lt.mpr ?_, fun _ => ?_⟩⟩
    · 
      have p176 : ∀ x0 : Int32, x0 = 0 ∨ x0 = 1 → OK (fun y _ => RSW Fv AN T C ND CN UN FN p mu u y) (fb_M_processRun_176 N () x x0) := fun x0 h0 => by
        unfold fb_M_processRun_176 fb_M_processRun_480
        have fin : ∀ t, GT n ow kd (PQ AN PR) t → OK (fun y _ => RSW Fv AN T C ND CN UN FN p mu u y) (bnd (fm_M_put N x t) (fun u2 _ => some (u2, ()))) := fun t gt =>
          ok_bnd.mpr (ok_mono (putR (N := N) ex hm hx x98 (by omega) rfl gt (by omega)) (fun y _ hy => ok_some.mpr (RES_via fx ox hy hw hT i.2.1 (by decide) (by decide) (by decide) (by decide) (by decide) (by decide))))
        rcases h0 with h0 | h0
        · rw [h0, truth0, bnd_so]; exact fin _ (GT_atom hp'.2.1 (by omega))
        · rw [h0, truth1, bnd_so]; exact fin _ (GT_atom hp'.2.1 (by omega))
      exact ok_ck.mpr ⟨in9, ok_br.mpr ⟨fun _ => p176 0 (Or.inl rfl), fun _ => p176 1 (Or.inr rfl)⟩⟩
    · 
      have e4 : k = 4 := by have := of_decide_eq_true z4; omega
      have r1 := F_r x 121
      rw [I_F (k := 121), show (2 : Int32) = I 2 from rfl, term_e, bnd_so]
      refine ok_bnd.mpr (ok_mono (pt _ _ (by rw [lit1q, I_add, wi_e]; exact FR.wi FR.rf (by decide)) (Or.inl ⟨nh_mk (by omega), hp'.2.1.2.2.1 _ r1.1 r1.2⟩)) (fun y _ hy => ?_))
      obtain ⟨y1, y2, y3⟩ := hy
      have y125 : F y 125 = F u 125 := FR.F y1 (by decide)
      have wty : WTQ y PR := WT_fr wt y1 (by decide) (by decide) (by decide)
      have lky : LK y PR := LK_fr lk y1 (by decide) (by decide)
      refine ok_ck.mpr ⟨in9, ok_br.mpr ⟨fun _ => ?_, fun _ => ok_br.mpr ⟨fun _ => ok_some.mpr ?_, fun _ => ?_⟩⟩⟩
      · rw [lit1q, term_e, bnd_so, I_F' y3.2.2.1, show (1 : Int) = ((1 : Nat) : Int) from rfl, lit0q]
        refine ok_bnd.mpr (ok_mono (message_ok (N := N) (sort := 1) (p := z) (r := F x 121) (wr := 0) (o := z) y3.1 i.2.1 hp'.2.1 (by omega) (fun _ => hz) r1 (by omega) (by omega) (fun _ => Or.inl ⟨by omega, nh_mk (by omega), hp'.2.1.1 3 (by omega) (by omega)⟩) hN) (fun y' _ hy' => ok_some.mpr ?_))
        exact fin_ev e hw hT hG hm hx h98 (FR.mo y1 (by decide) (by decide) (by decide) (by decide)) y2 (fun z => FR.A y1 (by decide)) y3 hy'.1 (MSG_evf hy')
      · exact fin_lk e hw hT hG hm hx h98 y1 y2 y3 FR.rf lky wty
      · obtain ⟨c, hc⟩ : ∃ c : Nat, F y 125 = c := ⟨(F y 125).toNat, by have := wty.1; omega⟩
        have c200 : c < 200 := by have := wty.2.1; have := h125 e4; omega
        rw [I_F' hc]
        refine ok_ck.mpr ⟨inb_at (k := 122) (n := 4000) rfl (by omega) (by omega) (by decide), ok_lt.mpr ?_⟩
        rw [I_tn (x := (c : Int)) (by omega) (by omega), Int.toNat_natCast, wa_e, show (wa y 122 c (F x 121)).1 125 = I c from I_F' hc, show (wa y 122 c (F x 121)).1 133 = I p from I_F' y3.2.2.1]
        refine ok_ck.mpr ⟨inb_at (k := 123) (n := 4000) rfl (by omega) (by omega) (by decide), ok_lt.mpr ?_⟩
        rw [I_tn (x := (c : Int)) (by omega) (by omega), Int.toNat_natCast, wa_e, show (wa (wa y 122 c (F x 121)) 123 c (p : Int)).1 125 = I c from I_F' hc]
        refine ok_ck.mpr ⟨inb_at (k := 124) (n := 4000) rfl (by omega) (by omega) (by decide), ok_lt.mpr (ok_lt.mpr (ok_some.mpr ?_))⟩
        rw [I_tn (x := (c : Int)) (by omega) (by omega), Int.toNat_natCast, wa_e, show (wa (wa (wa y 122 c (F x 121)) 123 c (p : Int)) 124 c (z : Int)).1 125 = I c from I_F' hc, lit1q, I_add, wi_e]
        have f6 : FR [125] [] [122, 123, 124] [] y (wi (wa (wa (wa y 122 c (F x 121)) 123 c (p : Int)) 124 c (z : Int)) 125 ((c : Int) + 1)) := FR.wi (FR.wa (FR.wa (FR.wa FR.rf (by decide)) (by decide)) (by decide)) (by decide)
        have a3 : ∀ j, A (wi (wa (wa (wa y 122 c (F x 121)) 123 c (p : Int)) 124 c (z : Int)) 125 ((c : Int) + 1)) 123 j = if j = c then (p : Int) else A y 123 j := fun j => by rw [A_wi, A_ne (by decide), A_eq (by omega) (by omega), A_ne (by decide)]
        have a4 : ∀ j, A (wi (wa (wa (wa y 122 c (F x 121)) 123 c (p : Int)) 124 c (z : Int)) 125 ((c : Int) + 1)) 124 j = if j = c then (z : Int) else A y 124 j := fun j => by rw [A_wi, A_eq (by omega) (by omega), A_ne (by decide), A_ne (by decide)]
        have a5 : F (wi (wa (wa (wa y 122 c (F x 121)) 123 c (p : Int)) 124 c (z : Int)) 125 ((c : Int) + 1)) 125 = (c : Int) + 1 := by rw [F_wi (by omega) (by omega), if_pos rfl]
        generalize wi (wa (wa (wa y 122 c (F x 121)) 123 c (p : Int)) 124 c (z : Int)) 125 ((c : Int) + 1) = y5 at *
        have pp := i.2.1
        refine fin_lk e hw hT hG hm hx h98 y1 y2 y3 (FR.mo f6 (by decide) (by decide) (by decide) (by decide)) (LK_fr lky f6 (by decide) (by decide)) ?_
        refine ⟨by omega, by omega, fun j hj => ?_⟩
        rw [a3, a4]
        by_cases ej : j = c
        · rw [if_pos ej, if_pos ej]; omega
        · rw [if_neg ej, if_neg ej]; exact wty.2.2 j (by omega)
    · rw [truth1, bnd_so]
      refine ok_bnd.mpr (ok_mono (pt _ x FR.rf (GT_atom hp'.2.1 (by omega))) (fun y _ hy => ?_))
      obtain ⟨y1, y2, y3⟩ := hy
      have lky : LK y PR := LK_fr lk y1 (by decide) (by decide)
      have wty : WTQ y PR := WT_fr wt y1 (by decide) (by decide) (by decide)
      have hpy : hp y p = hp u p := by unfold hp; rw [y1.2.2.2 88 (by decide)]
      have y133 := y3.2.2.1
      refine ok_br.mpr ⟨fun z8 => ?_, fun _ => ok_br.mpr ⟨fun _ => ?_, fun _ => ?_⟩⟩
      · obtain ⟨f, s, sz, hs⟩ := hsz (by have := of_decide_eq_true z8; omega)
        refine ok_bnd.mpr (ok_mono (exit_ok (N := N) (z := z) y3 hp'.2.1 (by rw [FR.F y1 (by decide), FR.F y1 (by decide)]; exact hE) hz (by rw [hpy]; exact sz) hs hN) (fun y' _ hy' => ok_some.mpr ?_))
        exact fin_ev e hw hT hG hm hx h98 (FR.mo y1 (by decide) (by decide) (by decide) (by decide)) y2 (fun z => FR.A y1 (by decide)) y3 hy'.1 hy'.2
      · rw [I_F' y133]
        refine ok_bnd.mpr (ok_mono (removeLink_ok (N := N) (q := z) x4 (by omega) (lky.1 p i.2.1) (by omega)) (fun a _ ha => ?_))
        obtain ⟨a1, a2⟩ := ha
        rw [I_F' (show F a 133 = p by rw [FR.F a1.1 (by decide)]; exact y133)]
        by_cases ez : z = p
        · subst ez
          have lka := LK_self pr i.2.1 lky a1 a2
          refine ok_bnd.mpr (ok_mono (removeLink_ok (N := N) (q := z) x4 (by omega) a2 (by omega)) (fun b _ hb => ok_some.mpr ?_))
          obtain ⟨b1, b2⟩ := hb
          have fab : FR [] [] [116, 117] [] y b := FR.tr a1.1 b1.1
          exact fin_lk e hw hT hG hm hx h98 y1 y2 y3 (FR.mo fab (by decide) (by decide) (by decide) (by decide)) (LK_self pr i.2.1 lka b1 b2) (WT_fr wty fab (by decide) (by decide) (by decide))
        · have lz : LKR a PR z := LKR_same (lky.1 z hz) (a1.2.1 z ez) (fun k hk => a1.2.2.1 _ (by omega))
          refine ok_bnd.mpr (ok_mono (removeLink_ok (N := N) (q := p) (show z < 24 by omega) (by omega) lz (by omega)) (fun b _ hb => ok_some.mpr ?_))
          obtain ⟨b1, b2⟩ := hb
          have fab : FR [] [] [116, 117] [] y b := FR.tr a1.1 b1.1
          exact fin_lk e hw hT hG hm hx h98 y1 y2 y3 (FR.mo fab (by decide) (by decide) (by decide) (by decide)) (LK_two pr i.2.1 hz (Ne.symm ez) lky a1 a2 b1 b2) (WT_fr wty fab (by decide) (by decide) (by decide))
      · refine ok_ck.mpr ⟨in9, ok_br.mpr ⟨fun z3 => ?_, fun _ => ok_br.mpr ⟨fun _ => ok_some.mpr (fin_lk e hw hT hG hm hx h98 y1 y2 y3 FR.rf lky wty), fun zp => ?_⟩⟩⟩
        · rw [lit1q, term_e, bnd_so, I_F' y133, lit0q]
          refine ok_bnd.mpr (ok_mono (signal_ok (N := N) (q := p) (p := z) (o := z) (wr := 0) y3.1 i.2.1 hz hp'.2.1 (by omega) (by omega) (Or.inl ⟨nh_mk (by omega), hp'.2.1.1 3 (by omega) (by omega)⟩) hN) (fun y' _ hy' => ok_some.mpr ?_))
          exact fin_ev e hw hT hG hm hx h98 (FR.mo y1 (by decide) (by decide) (by decide) (by decide)) y2 (fun z => FR.A y1 (by decide)) y3 hy'.1 hy'.2.1
        · have ne : z ≠ p := fun ez => by
            have := of_decide_eq_false zp
            rw [I_F' y133, ez] at this
            exact this rfl
          refine ok_bnd.mpr (ok_mono (isLinked_ok (N := N) y133 (lky.1 p i.2.1) x4 (by omega) (by omega)) (fun a r ha => ?_))
          obtain ⟨a1, a2⟩ := ha
          subst a1
          refine ok_br.mpr ⟨fun zr => ?_, fun _ => ok_some.mpr (fin_lk e hw hT hG hm hx h98 y1 y2 y3 FR.rf lky wty)⟩
          have nl : ¬ inL a p z := by
            rcases a2 with a2 | a2
            · exfalso; have := of_decide_eq_true zr; rw [a2] at this; exact absurd this (by decide)
            · exact a2.2
          have nl2 : ¬ inL a z p := fun h => nl (lky.2 z p hz i.2.1 h)
          have rp := LKR_room (lky.1 p i.2.1) pr hz ne i.2.1 nl
          have rz := LKR_room (lky.1 z hz) pr i.2.1 (Ne.symm ne) hz nl2
          obtain ⟨c, hc⟩ : ∃ c : Nat, A a 117 p = c := ⟨(A a 117 p).toNat, by have := (lky.1 p i.2.1).1; omega⟩
          obtain ⟨d, hd⟩ : ∃ d : Nat, A a 117 z = d := ⟨(A a 117 z).toNat, by have := (lky.1 z hz).1; omega⟩
          rw [I_F' y133]
          refine ok_ck.mpr ⟨inb_at (k := 117) (n := 24) rfl (by omega) (by omega) (by decide), ?_⟩
          rw [I_tn (x := (p : Int)) (by omega) (by omega), Int.toNat_natCast, I_A' hc, show (24 : Int32) = I 24 from rfl, I_mul, I_add]
          refine ok_ck.mpr ⟨inb_at (k := 116) (n := 576) rfl (by omega) (by omega) (by decide), ok_lt.mpr ?_⟩
          rw [I_tn (x := 24 * (p : Int) + (c : Int)) (by omega) (by omega), show (24 * (p : Int) + (c : Int)).toNat = 24 * p + c from by omega, wa_e, show (wa a 116 (24 * p + c) (z : Int)).1 133 = I p from I_F' y133]
          refine ok_ck.mpr ⟨inb_at (k := 117) (n := 24) rfl (by omega) (by omega) (by decide), ok_ck.mpr ⟨inb_at (k := 117) (n := 24) rfl (by omega) (by omega) (by decide), ok_lt.mpr ?_⟩⟩
          rw [I_tn (x := (p : Int)) (by omega) (by omega), Int.toNat_natCast, show (wa a 116 (24 * p + c) (z : Int)).2.2.1 117 p = I c from I_A' hc, lit1q, I_add, wa_e]
          have fb : FR [] [] [116, 117] [] a (wa (wa a 116 (24 * p + c) (z : Int)) 117 p ((c : Int) + 1)) := FR.wa (FR.wa FR.rf (by decide)) (by decide)
          have b6 : ∀ j, A (wa (wa a 116 (24 * p + c) (z : Int)) 117 p ((c : Int) + 1)) 116 j = if j = 24 * p + c then (z : Int) else A a 116 j := fun j => by rw [A_ne (by decide), A_eq (by omega) (by omega)]
          have b7 : ∀ j, A (wa (wa a 116 (24 * p + c) (z : Int)) 117 p ((c : Int) + 1)) 117 j = if j = p then (c : Int) + 1 else A a 117 j := fun j => by rw [A_eq (by omega) (by omega), A_ne (by decide)]
          generalize wa (wa a 116 (24 * p + c) (z : Int)) 117 p ((c : Int) + 1) = b at *
          have b133 : F b 133 = p := by rw [FR.F fb (by decide)]; exact y133
          have bz : A b 117 z = d := by rw [b7, if_neg ne]; exact hd
          refine ok_ck.mpr ⟨inb_at (k := 117) (n := 24) rfl (by omega) (by omega) (by decide), ?_⟩
          rw [I_tn (x := (z : Int)) (by omega) (by omega), Int.toNat_natCast, I_A' bz, I_mul, I_add]
          refine ok_ck.mpr ⟨inb_at (k := 116) (n := 576) rfl (by omega) (by omega) (by decide), ok_lt.mpr ?_⟩
          rw [I_tn (x := 24 * (z : Int) + (d : Int)) (by omega) (by omega), show (24 * (z : Int) + (d : Int)).toNat = 24 * z + d from by omega, I_F' b133, wa_e]
          refine ok_ck.mpr ⟨inb_at (k := 117) (n := 24) rfl (by omega) (by omega) (by decide), ok_ck.mpr ⟨inb_at (k := 117) (n := 24) rfl (by omega) (by omega) (by decide), ok_lt.mpr (ok_some.mpr ?_)⟩⟩
          rw [show (wa b 116 (24 * z + d) (p : Int)).2.2.1 117 z = I d from I_A' bz, I_add, wa_e]
          have fc : FR [] [] [116, 117] [] a (wa (wa b 116 (24 * z + d) (p : Int)) 117 z ((d : Int) + 1)) := FR.wa (FR.wa fb (by decide)) (by decide)
          have c6 : ∀ j, A (wa (wa b 116 (24 * z + d) (p : Int)) 117 z ((d : Int) + 1)) 116 j = if j = 24 * z + d then (p : Int) else A b 116 j := fun j => by rw [A_ne (by decide), A_eq (by omega) (by omega)]
          have c7 : ∀ j, A (wa (wa b 116 (24 * z + d) (p : Int)) 117 z ((d : Int) + 1)) 117 j = if j = z then (d : Int) + 1 else A b 117 j := fun j => by rw [A_eq (by omega) (by omega), A_ne (by decide)]
          generalize wa (wa b 116 (24 * z + d) (p : Int)) 117 z ((d : Int) + 1) = g at *
          have rowp := LKR_add (w2 := g) (lky.1 p i.2.1) hz ne nl (by rw [hc, Int.toNat_natCast, c6, if_neg (by omega), b6, if_pos rfl]) (fun j hj => by rw [c6, if_neg (by omega), b6, if_neg (by omega)]) (by rw [c7, if_neg (Ne.symm ne), b7, if_pos rfl, hc]) rp
          have rowz := LKR_add (w2 := g) (lky.1 z hz) i.2.1 (Ne.symm ne) nl2 (by rw [hd, Int.toNat_natCast, c6, if_pos rfl]) (fun j hj => by rw [c6, if_neg (by omega), b6, if_neg (by omega)]) (by rw [c7, if_pos rfl, hd]) rz
          have oth : ∀ t, t ≠ p → t ≠ z → A g 117 t = A a 117 t ∧ ∀ j, j < 24 → A g 116 (24 * t + j) = A a 116 (24 * t + j) := fun t t1 t2 => ⟨by rw [c7, if_neg t2, b7, if_neg t1], fun j hj => by rw [c6, if_neg (by omega), b6, if_neg (by omega)]⟩
          have inn : ∀ s t, s < PR → (inL g s t ↔ (inL a s t ∨ (s = p ∧ t = z) ∨ (s = z ∧ t = p))) := fun s t hs => by
            by_cases s1 : s = p
            · subst s1
              rw [rowp.2 t]
              exact ⟨fun h => by rcases h with h | h; exact Or.inl h; exact Or.inr (Or.inl ⟨rfl, h⟩), fun h => by rcases h with h | h | h; exact Or.inl h; exact Or.inr h.2; exact absurd h.1.symm ne⟩
            · by_cases s2 : s = z
              · subst s2
                rw [rowz.2 t]
                exact ⟨fun h => by rcases h with h | h; exact Or.inl h; exact Or.inr (Or.inr ⟨rfl, h⟩), fun h => by rcases h with h | h | h; exact Or.inl h; exact absurd h.1 s1; exact Or.inr h.2⟩
              · rw [inL_same (lky.1 s hs) (oth s s1 s2).1 (oth s s1 s2).2]
                exact ⟨fun h => Or.inl h, fun h => by rcases h with h | h | h; exact h; exact absurd h.1 s1; exact absurd h.1 s2⟩
          refine fin_lk e hw hT hG hm hx h98 y1 y2 y3 (FR.mo fc (by decide) (by decide) (by decide) (by decide)) ⟨fun s hs => ?_, fun s t hs ht hst => ?_⟩ (WT_fr wty fc (by decide) (by decide) (by decide))
          · by_cases s1 : s = p
            · subst s1; exact rowp.1
            · by_cases s2 : s = z
              · subst s2; exact rowz.1
              · exact LKR_same (lky.1 s hs) (oth s s1 s2).1 (oth s s1 s2).2
          · rcases (inn s t hs).mp hst with h | h | h
            · exact (inn t s ht).mpr (Or.inl (lky.2 s t hs ht h))
            · exact (inn t s ht).mpr (Or.inr (Or.inr ⟨h.2, h.1⟩))
            · exact (inn t s ht).mpr (Or.inr (Or.inl ⟨h.2, h.1⟩))
  have bad : ∀ (v : MS) (t t4 : Int64), FR [] [] [] [141] u v → OK (fun y _ => RSW Fv AN T C ND CN UN FN p mu u y) (fb_M_processRun_108 N () v (I k) t t4) := fun v t t4 fv => by
    unfold fb_M_processRun_108 fb_M_processRun_109
    have iv : MEI Fv (PQ AN PR) PR v p n ow kd (ro (fr - 1) + tH T q) (rn (fr - 1) + rh (fr - 1) + tM T q) bxM := MEI_fr i fv (by decide) (by decide) (by decide) (by decide) (by decide) (by decide) (by decide) (by decide) (by decide) (by decide) (by decide) (by decide) (by decide) (by decide) (by decide) (by decide) (by decide) (by decide)
    have ew := ERX_fr e fv (by decide) (by decide) (by decide) iv (by have := e.2.2.2.2.2.2.1; omega) (Nat.le_refl _)
    refine ok_br.mpr ⟨fun _ => ?_, fun z => absurd rfl (of_decide_eq_false z)⟩
    exact ok_bnd.mpr (ok_mono (err_ok (N := N) (a := 11) ew (PGM_fr hp' fv (by decide) (by decide)) (by omega) hN) (fun y _ hy => ok_some.mpr (RES_via fv (OTF_fr fv (by decide)) hy hw hT i.2.1 (by decide) (by decide) (by decide) (by decide) (by decide) (by decide))))
  have good : ∀ (v : MS) (t t4 : Int64), FR [] [] [] [141] u v → so t4 = 4 → GT n ow kd (PQ AN PR) t4 → (k = 8 → SZL (hp u p) n ow kd Fv (PQ AN PR) t) → (k = 4 → F u 125 ≠ 200) → OK (fun y _ => RSW Fv AN T C ND CN UN FN p mu u y) (fb_M_processRun_104 N () v (I k) t t4) := fun v t t4 fv s4 g4 h8 h125 => by
    unfold fb_M_processRun_104 fb_M_processRun_109
    obtain ⟨z, hz, ez⟩ := PQ_pid g4 s4
    refine ok_br.mpr ⟨fun z => absurd (of_decide_eq_true z) (by decide), fun _ => ?_⟩
    rw [valueOf_e, bnd_so, ez, show (8 : Int32) = I 8 from rfl, decE (by omega) (by omega) (by omega) (by omega)]
    have v133 : F v 133 = p := by rw [FR.F fv (by decide)]; exact i.2.2.1
    refine ok_ck.mpr ⟨by rw [I_F' v133]; exact inb_at (k := 92) (n := 24) rfl (by omega) (by omega) (by decide), ok_br.mpr ⟨fun z8 => ?_, fun z8 => ?_⟩⟩
    · have e8 : npre k = 2 := by have := of_decide_eq_true z8; omega
      exact y151 v z t 2 hz (by rw [e8]; rfl) fv h8 h125
    · have e8 : npre k = 1 := by have := of_decide_eq_false z8; omega
      exact y151 v z t 1 hz (by rw [e8]; rfl) fv h8 h125
  have y45 : ∀ (t t4 : Int64), GT n ow kd (PQ AN PR) t4 → (k = 8 → GT n ow kd (PQ AN PR) t) → OK (fun y _ => RSW Fv AN T C ND CN UN FN p mu u y) (fb_M_processRun_45 N () u (I k) t t4) := fun t t4 g4 gt => by
    unfold fb_M_processRun_45 fb_M_processRun_61 fb_M_processRun_83
    have r4 := so_r t4
    rw [sortOf_e, bnd_so, show (4 : Int32) = I 4 from rfl, decE r4.1 r4.2 (by omega) (by omega)]
    refine ok_br.mpr ⟨fun z4 => ok_br.mpr ⟨fun z => absurd (of_decide_eq_true z) (by decide), fun _ => ?_⟩, fun _ => ok_br.mpr ⟨fun _ => bad u t t4 FR.rf, fun z => absurd rfl (of_decide_eq_false z)⟩⟩
    have s4 := of_decide_eq_true z4
    rw [show (8 : Int32) = I 8 from rfl, decE (by omega) (by omega) (by omega) (by omega), decE (by omega) (by omega) (by omega) (by omega)]
    have y83 : (k = 4 → F u 125 ≠ 200) → OK (fun y _ => RSW Fv AN T C ND CN UN FN p mu u y) (br (decide ((k : Int) = 8)) (bnd (fm_M_copySize N u (u.1 133) t) (fun u27 r27 => br (decide (500 < r27)) (fb_M_processRun_108 N () u27 (I k) t t4) (fb_M_processRun_104 N () u27 (I k) t t4))) (fb_M_processRun_104 N () u (I k) t t4)) := fun h125 => by
      refine ok_br.mpr ⟨fun z8 => ?_, fun z8 => good u t t4 FR.rf s4 g4 (fun z => absurd (by omega) (of_decide_eq_false z8)) h125⟩
      have e8 : k = 8 := by have := of_decide_eq_true z8; omega
      obtain ⟨f, s, sz⟩ := HP_sz hg (gt e8)
      rw [I_F' i.2.2.1]
      refine ok_bnd.mpr (ok_mono (copySize_ok (N := N) hg n500 (by omega) sz (by omega)) (fun v r hv => ?_))
      obtain ⟨v1, v2⟩ := hv
      rw [v2, lit500, decL (by omega) (by omega) (by split <;> omega) (by split <;> omega)]
      refine ok_br.mpr ⟨fun _ => bad v t t4 v1, fun zs => good v t t4 v1 s4 g4 (fun _ => ⟨f, s, sz, ?_⟩) h125⟩
      have := of_decide_eq_false zs
      by_cases q5 : s ≤ 500
      · exact q5
      · rw [if_neg q5] at this; omega
    have r125 := F_r u 125
    refine ok_br.mpr ⟨fun _ => ok_br.mpr ⟨fun _ => bad u t t4 FR.rf, fun z => y83 (fun _ h => ?_)⟩, fun z => y83 (fun h => absurd (by omega) (of_decide_eq_false z))⟩
    have := of_decide_eq_false z
    rw [I_F' h] at this
    exact this rfl
  unfold fm_M_processRun fb_M_processRun_0 fb_M_processRun_25
  rw [show (5 : Int32) = I 5 from rfl, show (8 : Int32) = I 8 from rfl, decE (by omega) (by omega) (by omega) (by omega), decide_eq_false (by omega), br_fq, decE (by omega) (by omega) (by omega) (by omega)]
  obtain ⟨t0, g0⟩ := top_ok (N := N) (k := 0) i (by omega)
  refine ok_br.mpr ⟨fun z8 => ?_, fun z8 => ?_⟩
  · have e8 : npre k = 2 := by have := of_decide_eq_true z8; omega
    obtain ⟨t1, g1⟩ := top_ok (N := N) (k := 1) i (by omega)
    rw [show (0 : Int32) = I ((0 : Nat) : Int) from rfl, t0, bnd_so, z8, br_tq, show (1 : Int32) = I ((1 : Nat) : Int) from rfl, t1, bnd_so]
    exact y45 _ _ g1 (fun _ => g0)
  · rw [z8, br_fq, show fm_M_top N u 0 = some (u, u.2.2.2 91 (46000 * p + (ro (fr - 1) + tH T q - 1 - 0))) from t0, bnd_so]
    exact y45 _ _ g0 (fun z => absurd (by omega) (of_decide_eq_false z8))
end
end
section
section
variable {Fv : Int64 → Int64 → Prop} {P P2 : Int64 → Prop} {u v w w2 x y : MS} {PR PR2 N p n n2 opM bnM bxM bx2 ND fr k tp mu CN PN SN UN FN rq q m h mm AN z j : Nat} {ow kd ow2 kd2 ro rn rh cb pc ct pM pE : Nat → Nat} {T : TY} {C : CY}
theorem lg_ge0 {a : Int64} : (0 ≤ lg_cmp a 0) ↔ 0 ≤ a.toInt := by
  have z0 : (0 : Int64).toInt = 0 := rfl
  unfold lg_cmp
  by_cases e : a > 0
  · rw [if_pos e]
    have : (0 : Int64).toInt < a.toInt := Int64.lt_iff_toInt_lt.mp e
    exact ⟨fun _ => by omega, fun _ => by decide⟩
  · rw [if_neg e]
    have e' : ¬ (0 : Int64).toInt < a.toInt := fun z => e (Int64.lt_iff_toInt_lt.mpr z)
    by_cases e2 : a = 0
    · rw [if_pos e2, e2]; exact ⟨fun _ => by decide, fun _ => by decide⟩
    · rw [if_neg e2]
      have : a.toInt ≠ 0 := fun z => e2 (Int64.toInt_inj.mp (z.trans z0.symm))
      exact ⟨fun z => absurd z (by decide), fun z => by omega⟩
theorem lg_lt0 {a : Int64} : (lg_cmp a 0 < 0) ↔ a.toInt < 0 := by
  have := lg_ge0 (a := a)
  constructor
  · intro h
    by_cases e : a.toInt < 0
    · exact e
    · exact absurd (this.mpr (by omega)) (fun q => absurd (Int32.lt_of_lt_of_le h q) (fun r => absurd (Int32.lt_iff_toInt_lt.mp r) (by omega)))
  · intro h
    have n : ¬ 0 ≤ lg_cmp a 0 := fun q => by have := this.mp q; omega
    exact Int32.not_le.mp n
theorem w64_of {x : Int} (h1 : -2147483648 ≤ x) (h2 : x < 2147483648) : (I x).toInt64 = Int64.ofInt x := by
  apply Int64.toInt_inj.mp
  rw [Int32.toInt_toInt64, I_ti h1 h2, Int64.toInt_ofInt_of_le (by omega) (by omega)]
theorem w64_i {x : Int} (h1 : -2147483648 ≤ x) (h2 : x < 2147483648) : (I x).toInt64.toInt = x := by rw [Int32.toInt_toInt64, I_ti h1 h2]
theorem w64_n {x : Int} (h1 : -2147483600 ≤ x) (h2 : x < 2147483600) : (-1 - (I x).toInt64).toInt = -1 - x ∧ (-1 - (-1 - (I x).toInt64)).toInt32 = I x := by
  rw [w64_of (by omega) (by omega), show (-1 : Int64) = Int64.ofInt (-1) from rfl, ← Int64.ofInt_sub, ← Int64.ofInt_sub]
  refine ⟨Int64.toInt_ofInt_of_le (by omega) (by omega), ?_⟩
  rw [show (-1 : Int) - (-1 - x) = x from by omega, ← w64_of (by omega) (by omega), Int32.toInt32_toInt64]
def npS (u : MS) (z : Nat) : MS :=
  wa (wa (wa (wa (wa (wa (wa (wa (wa (wa (wa (wa (wj (wa (wa (wa (wa (wa (wa (wa (wa (wa (wi u 118 ((z : Int) + 1)) 89 z 0) 90 z 0) 92 z 0) 94 z 0) 95 z 1) 106 z 0) 108 z 0) 109 z 5) 110 z 0) 111 z (-1)) 112 z 0) 113 z (-1)) 114 z 0) 115 z 0) 117 z 0) 132 z 0) (96) (60 * z) (-1)) 97 (60 * z) (-1)) 98 (60 * z) 0) 99 (60 * z) 0) 100 (60 * z) 0) 101 (60 * z) 0
theorem newProcess_e (h : F u 118 = z) (hz : z < 24) : fm_M_newProcess N u = some (npS u z, I z) := by
  unfold fm_M_newProcess fb_M_newProcess_0
  rw [I_F' h]
  have i1 : ∀ k n, ln k = n → 24 ≤ n → n < 2147483648 → inb (I (z : Int)) (ln k) = true := fun k n hk h1 h2 => inb_at hk (by omega) (by omega) h2
  have i2 : ∀ k, ln k = 1440 → inb (I (z : Int) * 60) (ln k) = true := fun k hk => by rw [show (60 : Int32) = I 60 from rfl, I_mul]; exact inb_at hk (by omega) (by omega) (by decide)
  have tz : (I (z : Int)).toNatClampNeg = z := by rw [I_tn (by omega) (by omega), Int.toNat_natCast]
  have t60 : (I (z : Int) * 60).toNatClampNeg = 60 * z := by rw [show (60 : Int32) = I 60 from rfl, I_mul, I_tn (by omega) (by omega)]; omega
  have a1 : I (z : Int) + 1 = I ((z : Int) + 1) := by rw [lit1q, I_add]
  simp only [lt_e, i1 89 25 rfl (by decide) (by decide), i1 90 24 rfl (by decide) (by decide), i1 92 24 rfl (by decide) (by decide), i1 94 24 rfl (by decide) (by decide), i1 95 24 rfl (by decide) (by decide), i1 106 24 rfl (by decide) (by decide), i1 108 24 rfl (by decide) (by decide), i1 109 24 rfl (by decide) (by decide), i1 110 24 rfl (by decide) (by decide), i1 111 24 rfl (by decide) (by decide), i1 112 24 rfl (by decide) (by decide), i1 113 24 rfl (by decide) (by decide), i1 114 24 rfl (by decide) (by decide), i1 115 24 rfl (by decide) (by decide), i1 117 24 rfl (by decide) (by decide), i1 132 24 rfl (by decide) (by decide), i2 96 rfl, i2 97 rfl, i2 98 rfl, i2 99 rfl, i2 100 rfl, i2 101 rfl, ck_t, tz, t60, a1]
  rfl
theorem np_fr : FR [118] [] [89, 90, 92, 94, 95, 96, 97, 98, 99, 100, 101, 106, 108, 109, 110, 112, 113, 114, 115, 117, 132] [111] u (npS u z) := by
  unfold npS
  repeat (first | refine FR.wa ?_ (by decide) | refine FR.wj ?_ (by decide) | refine FR.wi ?_ (by decide))
  exact FR.rf
theorem np_row (hk : k ∈ [89, 90, 92, 94, 106, 108, 110, 112, 114, 115, 117, 132]) : A (npS u z) k j = if j = z then 0 else A u k j := by
  simp only [List.mem_cons, List.not_mem_nil, or_false] at hk
  rcases hk with h | h | h | h | h | h | h | h | h | h | h | h <;> subst h <;> (unfold npS; simp only [A_wa (x := 0) (by decide) (by decide), A_wa (x := 1) (by decide) (by decide), A_wa (x := 5) (by decide) (by decide), A_wa (x := -1) (by decide) (by decide), A_wj, A_wi]; simp)
theorem np_95 : A (npS u z) 95 j = if j = z then 1 else A u 95 j := by
  unfold npS; simp only [A_wa (x := 0) (by decide) (by decide), A_wa (x := 1) (by decide) (by decide), A_wa (x := 5) (by decide) (by decide), A_wa (x := -1) (by decide) (by decide), A_wj, A_wi]; simp
theorem np_109 : A (npS u z) 109 j = if j = z then 5 else A u 109 j := by
  unfold npS; simp only [A_wa (x := 0) (by decide) (by decide), A_wa (x := 1) (by decide) (by decide), A_wa (x := 5) (by decide) (by decide), A_wa (x := -1) (by decide) (by decide), A_wj, A_wi]; simp
theorem np_fr0 (hk : k ∈ [98, 99, 100, 101]) : A (npS u z) k j = if j = 60 * z then 0 else A u k j := by
  simp only [List.mem_cons, List.not_mem_nil, or_false] at hk
  rcases hk with h | h | h | h <;> subst h <;> (unfold npS; simp only [A_wa (x := 0) (by decide) (by decide), A_wa (x := 1) (by decide) (by decide), A_wa (x := 5) (by decide) (by decide), A_wa (x := -1) (by decide) (by decide), A_wj, A_wi]; simp)
theorem np_fr1 (hk : k ∈ [96, 97]) : A (npS u z) k j = if j = 60 * z then -1 else A u k j := by
  simp only [List.mem_cons, List.not_mem_nil, or_false] at hk
  rcases hk with h | h <;> subst h <;> (unfold npS; simp only [A_wa (x := 0) (by decide) (by decide), A_wa (x := 1) (by decide) (by decide), A_wa (x := 5) (by decide) (by decide), A_wa (x := -1) (by decide) (by decide), A_wj, A_wi]; simp)
theorem np_118 (hz : z < 24) : F (npS u z) 118 = ((z + 1 : Nat) : Int) := by
  unfold npS; simp only [F_wa, F_wj]; rw [F_wi (by omega) (by omega), if_pos rfl]; omega
theorem np_111 : (npS u z).2.2.2 111 j = if j = z then -1 else u.2.2.2 111 j := by
  unfold npS; simp only [J_wa, J_wj, J_wi, if_true]
theorem np_otf : OTF z u (npS u z) := by
  refine ⟨fun y hy => ?_, fun i hi => ?_, fun i _ => ⟨FR.A np_fr (by decide), FR.A np_fr (by decide), FR.A np_fr (by decide), FR.A np_fr (by decide)⟩, fun i => ?_, fun i hi => ?_, fun y hy => ⟨FR.A np_fr (by decide), ?_, ?_⟩⟩
  · rw [np_row (k := 92) (by decide), np_row (k := 94) (by decide), np_95, np_row (k := 106) (by decide), if_neg hy, if_neg hy, if_neg hy, if_neg hy]; exact ⟨rfl, rfl, rfl, rfl⟩
  · rw [np_fr0 (k := 98) (by decide), np_fr0 (k := 99) (by decide), np_fr0 (k := 100) (by decide), np_fr0 (k := 101) (by decide), if_neg (by omega), if_neg (by omega), if_neg (by omega), if_neg (by omega)]; exact ⟨rfl, rfl, rfl, rfl⟩
  · rw [np_fr1 (k := 97) (by decide)]
    by_cases e : i = 60 * z
    · rw [if_pos e]; exact Or.inr (by omega)
    · rw [if_neg e]; exact Or.inl rfl
  · rw [np_fr1 (k := 96) (by decide), if_neg (by omega)]
  · rw [np_row (k := 110) (by decide), if_neg hy]
  · rw [np_111, if_neg hy]
theorem GT_mo {t : Int64} (hP : ∀ t, P t → P2 t) (g : GT n ow kd P t) : GT n ow kd P2 t := by
  rcases g with ⟨a, b⟩ | g
  · exact Or.inl ⟨a, hP t b⟩
  · exact Or.inr g
theorem HP_mo {h : Nat → Int64} (hP : ∀ t, P t → P2 t) (g : HP h n ow kd Fv P) : HP h n ow kd Fv P2 := fun t ht gt => by
  obtain ⟨f, s, a, b⟩ := g t ht (by
    rcases gt with ⟨a, -⟩ | gt
    · exact absurd ht a
    · exact Or.inr gt)
  exact ⟨f, s, SZ_ext (Nat.le_refl _) (fun _ _ => rfl) (fun _ _ => rfl) (fun _ _ => rfl) (fun _ _ q => q) hP a, b⟩
theorem CX_mo {h : Nat → Int64} (hP : ∀ t, P t → P2 t) (c : CX u p h n ow kd Fv P opM bnM bxM) : CX u p h n ow kd Fv P2 opM bnM bxM := by
  obtain ⟨x1, x2, x3, x4, x5, x6, x7, x8, x9, x10, x11⟩ := c
  exact ⟨x1, HP_mo hP x2, x3, x4, x5, x6, x7, fun i hi => GT_mo hP (x8 i hi), fun i hi => GT_mo hP (x9 i hi), fun i hi => GT_mo hP (x10 i hi), fun e => GT_mo hP (x11 e)⟩
theorem GTP_mo {o : Nat} {t : Int64} (hP : ∀ t, P t → P2 t) (g : GTP Fv P u o t) : GTP Fv P2 u o t := by
  obtain ⟨n, ow, kd, a, b, c, d⟩ := g
  exact ⟨n, ow, kd, a, b, HP_mo hP c, GT_mo hP d⟩
theorem DW_grow (d : DW Fv P PR u) (hP : ∀ t, P t → P2 t) (hz : PR < 24) : DW Fv P2 (PR + 1) (npS u PR) := by
  obtain ⟨⟨d1, d1'⟩, d2, ⟨n4, ow4, kd4, d3a, d3b, d3c⟩, d4, ⟨eF, eM, e1, e2, e3, e4, e5⟩, d6⟩ := d
  have f := np_fr (u := u) (z := PR)
  have h88 : ∀ o, hp (npS u PR) o = hp u o := fun o => by unfold hp; rw [f.2.2.2 88 (by decide)]
  have r89 : ∀ y, y ≠ PR → A (npS u PR) 89 y = A u 89 y := fun y hy => by rw [np_row (k := 89) (by decide), if_neg hy]
  have r109 : ∀ y, y ≠ PR → A (npS u PR) 109 y = A u 109 y := fun y hy => by rw [np_109, if_neg hy]
  refine ⟨⟨np_118 hz, by omega⟩, fun y hy => ?_, ⟨n4, ow4, kd4, by rw [r89 24 (by omega)]; exact d3a, d3b, by rw [h88]; exact HP_mo hP d3c⟩, by rw [FR.F f (by decide)]; exact d4, ⟨eF, eM, by rw [FR.F f (by decide)]; exact e1, by rw [FR.F f (by decide)]; exact e2, e3, ?_, fun i h1 h2 => ?_⟩, fun y hy => ?_⟩
  · by_cases e : y = PR
    · rw [e]
      refine ⟨0, fun _ => 1, fun _ => 0, 0, 0, 0, by rw [np_row (k := 89) (by decide), if_pos rfl]; rfl, rfl, HP_none, by omega, hz, ⟨by rw [np_row (k := 92) (by decide), if_pos rfl]; rfl, by omega⟩, ⟨by rw [np_row (k := 94) (by decide), if_pos rfl]; rfl, by omega⟩, ⟨by rw [np_row (k := 108) (by decide), if_pos rfl]; rfl, by omega⟩, fun i hi => absurd hi (Nat.not_lt_zero i), fun i hi => absurd hi (Nat.not_lt_zero i), fun i hi => absurd hi (Nat.not_lt_zero i), fun e => ?_⟩
      rw [FR.F f (by decide), d4] at e; omega
    · obtain ⟨n, ow, kd, o2, b2, bx, a, c⟩ := PRC_same (w2 := npS u PR) (d2 y (by omega)) (r89 y e) (h88 y) (by rw [np_row (k := 92) (by decide), if_neg e]) (by rw [np_row (k := 94) (by decide), if_neg e]) (by rw [np_row (k := 108) (by decide), if_neg e]) (fun i _ => by rw [f.2.2.2 91 (by decide)]) (fun i _ => by rw [f.2.2.2 93 (by decide)]) (fun i _ => by rw [f.2.2.2 107 (by decide)]) (by rw [FR.F f (by decide), d4]; omega)
      exact ⟨n, ow, kd, o2, b2, bx, a, CX_mo hP c⟩
  · show eM ≤ cE (npS u PR) PR + _
    rw [cE_eq PR (fun p hp => r109 p (by omega))]; omega
  · obtain ⟨q1, q2, q3, q4⟩ := e5 i h1 h2
    rw [FR.A f (by decide), FR.A f (by decide), FR.A f (by decide), f.2.2.2 148 (by decide)]
    refine ⟨⟨q1.1, by omega⟩, q2, q3, ?_⟩
    rcases q4 with ⟨q4, q5⟩ | ⟨q4, q5, q6⟩
    · exact Or.inl ⟨q4, hP _ q5⟩
    · have no : (A u 147 i).toNat ≠ PR := by omega
      refine Or.inr ⟨q4, ?_, GTP_mo hP (GTP_same q6 (r89 _ no) (h88 _))⟩
      rcases q5 with q5 | ⟨q5, q7⟩
      · exact Or.inl q5
      · exact Or.inr ⟨by omega, by rw [r109 _ no]; exact q7⟩
  · by_cases e : y = PR
    · rw [e, np_109, if_pos rfl]; omega
    · rw [r109 y e]; exact d6 y (by omega)
end
end
section
section
variable {Fv : Int64 → Int64 → Prop} {P P2 : Int64 → Prop} {u v w w2 x y : MS} {PR PR2 N p n n2 opM bnM bxM bx2 ND fr k tp mu CN PN SN UN FN rq q m h mm AN z j : Nat} {ow kd ow2 kd2 ro rn rh cb pc ct pM pE : Nat → Nat} {T : TY} {C : CY}
theorem OTF_170 {a : Int} (h1 : -2147483648 ≤ a) (h2 : a < 2147483648) : OTF z u (wa u 170 z a) := by
  have f : FR [] [] [170] [] u (wa u 170 z a) := FR.wa FR.rf (by decide)
  exact ⟨fun y _ => ⟨FR.A f (by decide), FR.A f (by decide), FR.A f (by decide), FR.A f (by decide)⟩, fun i _ => ⟨FR.A f (by decide), FR.A f (by decide), FR.A f (by decide), FR.A f (by decide)⟩, fun i _ => ⟨FR.A f (by decide), FR.A f (by decide), FR.A f (by decide), FR.A f (by decide)⟩, fun i => Or.inl (FR.A f (by decide)), fun i _ => FR.A f (by decide), fun y hy => ⟨by rw [A_eq h1 h2, if_neg hy], FR.A f (by decide), rfl⟩⟩
theorem OTF_96 {a : Int} {i0 : Nat} (h1 : -2147483648 ≤ a) (h2 : a < 2147483648) (h3 : 60 * z ≤ i0 ∧ i0 < 60 * z + 60) : OTF z u (wa u 96 i0 a) := by
  have f : FR [] [] [96] [] u (wa u 96 i0 a) := FR.wa FR.rf (by decide)
  exact ⟨fun y _ => ⟨FR.A f (by decide), FR.A f (by decide), FR.A f (by decide), FR.A f (by decide)⟩, fun i _ => ⟨FR.A f (by decide), FR.A f (by decide), FR.A f (by decide), FR.A f (by decide)⟩, fun i _ => ⟨FR.A f (by decide), FR.A f (by decide), FR.A f (by decide), FR.A f (by decide)⟩, fun i => Or.inl (FR.A f (by decide)), fun i hi => by rw [A_eq h1 h2, if_neg (by omega)], fun y hy => ⟨FR.A f (by decide), FR.A f (by decide), rfl⟩⟩
theorem ERX_grow {as js : List Nat} (e : ERX Fv P PR T C ND CN p u fr ro rn rh cb pc ct q n ow kd opM bnM bxM mu) (hG : tG T q = 0) (hT : ∀ q, q < ND → tK T q ≤ 26) (hz : p ≠ z) (o : OTF z u w) (f : FR [118, 150] [] as js u w) (h23 : 23 ∉ as) (h109 : A w 109 p = 0) (d : DW Fv P2 PR2 w) (hp2 : p < PR2) : ∃ n2 ow2 kd2 bx2, ERX Fv P2 PR2 T C ND CN p w fr ro rn rh cb pc ct q n2 ow2 kd2 opM bnM bx2 mu := by
  obtain ⟨i, h2, h3, h4, h5, h6, h7, h8, h9⟩ := e
  obtain ⟨o1, o2, o3, o4⟩ := o.1 p hz
  obtain ⟨n2, ow2, kd2, bx2, ix⟩ := MEX_of (opM := opM) (bnM := bnM) d hp2 (by rw [FR.F f (by decide)]; exact i.2.2.1) (by rw [o1]; exact i.2.2.2.2.2.2.2.2.2.1.1) (by rw [o2]; exact i.2.2.2.2.2.2.2.2.2.2.1.1)
  refine ⟨n2, ow2, kd2, bx2, MEX_i ix (by omega), FRS_otf h2 hz (hT q h3) o (fun i => FR.A f h23), h3, h4, by rw [o4]; exact h5, h109, h7, h8, ?_⟩
  rcases h9 with ⟨y1, y2, y3⟩ | ⟨y1, c, s, many, hg, hb', mm', r, t1, t2, -⟩
  · refine Or.inl ⟨y1, by rw [FR.F f (by decide)]; exact y2, ?_⟩
    unfold CLG; rw [FR.F f (by decide), FR.F f (by decide)]; exact y3
  · omega
theorem WLD_grow (hw : WLD u T ND UN FN PR p) (hT : ∀ q, q < ND → tK T q ≤ 26) (hpr : PR < 24) (o : OTF PR u w) (hk : ∀ k, k ∈ KP → ∀ i, A w k i = A u k i) (h109 : ∀ y, y ≠ PR → A w 109 y = A u 109 y) (h116 : ∀ i, A w 116 i = A u 116 i) (h117 : ∀ y, A w 117 y = if y = PR then 0 else A u 117 y) (h125 : F w 125 = F u 125) (h123 : ∀ i, A w 123 i = A u 123 i) (h124 : ∀ i, A w 124 i = A u 124 i) (h128 : F w 128 = F u 128) (h127 : ∀ i, A w 127 i = A u 127 i) (h132 : ∀ y, A w 132 y = if y = PR then 0 else A u 132 y) (new : PSX w T ND UN FN PR) : WLD w T ND UN FN (PR + 1) p := by
  obtain ⟨⟨l1, l2⟩, ⟨t1, t2, t3⟩, h3, h4, h5, h6, h7⟩ := hw
  have inn : ∀ a b, a ≠ PR → (inL w a b ↔ inL u a b) := fun a b ha => by
    constructor
    · rintro ⟨k, k1, k2⟩; rw [h117, if_neg ha] at k1; rw [h116] at k2; exact ⟨k, k1, k2⟩
    · rintro ⟨k, k1, k2⟩; exact ⟨k, by rw [h117, if_neg ha]; exact k1, by rw [h116]; exact k2⟩
  have noP : ∀ b, ¬ inL w PR b := fun b ⟨k, k1, k2⟩ => by rw [h117, if_pos rfl] at k1; omega
  refine ⟨⟨fun a ha => ?_, fun a b ha hb hab => ?_⟩, ⟨by rw [h125]; exact t1, by rw [h125]; exact t2, fun i hi => ?_⟩, by rw [h128]; exact h3, fun i => by rw [h127]; exact h4 i, fun i => ?_, fun i => ?_, fun y hy hyp => ?_⟩
  · by_cases e : a = PR
    · subst e
      have z7 : A w 117 a = 0 := by rw [h117, if_pos rfl]
      exact ⟨by omega, by omega, fun k hk' => by omega, fun k j hk' hj => by omega⟩
    · obtain ⟨r1, r2, r3, r4⟩ := l1 a (by omega)
      unfold LKR
      rw [h117, if_neg e]
      refine ⟨r1, r2, fun k hk' => ?_, fun k j hk' hj => ?_⟩
      · rw [h116]; have := r3 k hk'; omega
      · rw [h116, h116]; exact r4 k j hk' hj
  · by_cases e : a = PR
    · subst e; exact absurd hab (noP b)
    · have hab' := (inn a b e).mp hab
      by_cases eb : b = PR
      · subst eb
        obtain ⟨k, k1, k2⟩ := hab'
        have := (l1 a (by omega)).2.2.1 k k1
        omega
      · exact (inn b a eb).mpr (l2 a b (by omega) (by omega) hab')
  · rw [h125] at hi
    rw [h123, h124]
    have := t3 i hi
    omega
  · rcases o.2.2.2.1 i with e | e
    · rw [e]; exact h5 i
    · exact e
  · rw [h132]
    by_cases e : i = PR
    · rw [if_pos e]; omega
    · rw [if_neg e]; exact h6 i
  · by_cases e : y = PR
    · rw [e]; exact new
    · exact PSX_otf (h7 y (by omega) hyp) e hT o hk (Or.inl (h109 y e))
def SPF (u w : MS) : Prop := FR [118, 150] [] [89, 90, 92, 94, 95, 96, 97, 98, 99, 100, 101, 106, 108, 109, 110, 112, 113, 114, 115, 117, 132, 142, 145, 146, 147, 170] [88, 93, 111, 141, 148] u w
def SPR (PR : Nat) (u w : MS) : Prop := SPF u w ∧ OTF PR u w ∧ (∀ y, y ≠ PR → A w 109 y = A u 109 y) ∧ (∀ y, A w 117 y = if y = PR then 0 else A u 117 y) ∧ (∀ y, A w 132 y = if y = PR then 0 else A u 132 y)
theorem SPR.tr {is ls as js : List Nat} (s : SPR PR u v) (f : FR is ls as js v w) (o : OTF PR v w) (h1 : ∀ k, k ∈ is → k ∈ [118, 150]) (h2 : ∀ k, k ∈ ls → k ∈ []) (h3 : ∀ k, k ∈ as → k ∈ [89, 90, 92, 94, 95, 96, 97, 98, 99, 100, 101, 106, 108, 109, 110, 112, 113, 114, 115, 117, 132, 142, 145, 146, 147, 170]) (h4 : ∀ k, k ∈ js → k ∈ [88, 93, 111, 141, 148]) (h117 : 117 ∉ as) (h132 : 132 ∉ as) (h109 : ∀ y, y ≠ PR → A w 109 y = A v 109 y) : SPR PR u w := by
  obtain ⟨s1, s2, s3, s4, s5⟩ := s
  exact ⟨FR.tr s1 (FR.mo f h1 h2 h3 h4), OTF.tr s2 o, fun y hy => by rw [h109 y hy, s3 y hy], fun y => by rw [FR.A f h117]; exact s4 y, fun y => by rw [FR.A f h132]; exact s5 y⟩
theorem SPR_np : SPR PR u (npS u PR) := ⟨FR.mo np_fr (by decide) (by decide) (by decide) (by decide), np_otf, fun y hy => by rw [np_109, if_neg hy], fun y => np_row (by decide), fun y => np_row (by decide)⟩
theorem sp286 {G : MS → Int32 → Int64 → Int32 → Int32 → Option (MS × Unit)} (e : ERX Fv (PQ AN PR) PR T C ND CN p u fr ro rn rh cb pc ct q n ow kd (ro (fr - 1) + tH T q) (rn (fr - 1) + rh (fr - 1) + tM T q) bxM mu) (hAN : 22 ≤ AN) (hw : WLD u T ND UN FN PR p) (hT : ∀ q, q < ND → tK T q ≤ 26) (hH : tH T q ≤ 760) (hG : tG T q = 0) (hq : tB T q + 1 ≤ tH T q) (hm : m < ND) (hx : NX T q m (tH T q) (tM T q)) (h98 : A u 98 (60 * p + (fr - 1)) = ((m : Nat) : Int)) (hpr : PR < 24) (s : SPR PR u w) (d : DW Fv (PQ AN (PR + 1)) (PR + 1) w) (new : PSX w T ND UN FN PR) : OK (fun v _ => RSW Fv AN T C ND CN UN FN p mu u v) (fb_M_spawnRun_286 N G w (I PR)) := by
  have hf := e.2.1.1
  have hro := (e.2.1.2.2.1 (fr - 1) (by omega)).2.2.2.2.1
  have pp := e.1.2.1
  have x4 := MEI_p e.1
  have hne : p ≠ PR := by omega
  obtain ⟨s1, s2, s3, s4, s5⟩ := s
  obtain ⟨n2, ow2, kd2, bx2, ew⟩ := ERX_grow e hG hT hne s2 s1 (by decide) (by rw [s3 p hne]; exact e.2.2.2.2.2.1) d (by omega)
  have ww : WLD w T ND UN FN (PR + 1) p := WLD_grow hw hT hpr s2 (fun k hk i => FR.A s1 (by revert hk; unfold KP; simp; omega)) s3 (fun i => FR.A s1 (by decide)) s4 (FR.F s1 (by decide)) (fun i => FR.A s1 (by decide)) (fun i => FR.A s1 (by decide)) (FR.F s1 (by decide)) (fun i => FR.A s1 (by decide)) s5 new
  have g0 : GFR u w := FR.mo s1 (by decide) (by decide) (by decide) (by decide)
  have w98 : A w 98 (60 * p + (fr - 1)) = ((m : Nat) : Int) := by rw [(s2.2.1 _ (by omega)).1]; exact h98
  rw [show ro (fr - 1) + tH T q = ro (fr - 1) + (tH T q - 1) + 1 from by omega] at ew
  unfold fb_M_spawnRun_286
  refine ok_bnd.mpr (ok_mono (takeE (N := N) ew (by omega)) (fun v r hv => ?_))
  obtain ⟨v1, v2, v3, v4⟩ := hv
  rw [show (4 : Int32) = I 4 from rfl, term_e, bnd_so]
  refine ok_bnd.mpr (ok_mono (putR (N := N) v1 hm hx (by rw [FR.A v3 (by decide)]; exact w98) (by omega) rfl (Or.inl ⟨nh_mk (by omega), (PQ_b hAN (by omega)).2.1 PR (by omega)⟩) (by omega)) (fun y _ hy => ok_some.mpr ?_))
  exact RSW.pre g0 (RES_via v3 v4 hy ww hT (by omega) (by decide) (by decide) (by decide) (by decide) (by decide) (by decide))
end
end
