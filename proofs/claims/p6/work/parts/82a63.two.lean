section
variable {Fv : Int64 → Int64 → Prop} {P : Int64 → Prop} {u v w w2 : MS} {PR N p n n2 opM bnM bxM bx2 ND fr k tp mu CN PN SN UN FN rq q m h mm : Nat} {ow kd ow2 kd2 ro rn rh cb pc ct pM pE : Nat → Nat} {T : TY} {C : CY}
theorem kn_all {g : Nat → Int} : ∀ k, (∀ i, i < k → g i = 0) → kn g k = k := by
  intro k
  induction k with
  | zero => intro _; rfl
  | succ k ih => intro h; rw [kn_s, ih (fun i hi => h i (by omega)), if_pos (h k (by omega))]
theorem kn_ext {g g2 : Nat → Int} : ∀ k, (∀ i, i < k → g i = g2 i) → kn g k = kn g2 k := by
  intro k
  induction k with
  | zero => intro _; rfl
  | succ k ih => intro h; rw [kn_s, kn_s, ih (fun i hi => h i (by omega)), h k (by omega)]
theorem LST_pre {h : Nat → Int64} : ∀ (a k : Nat) (x t : Int64), LST h a x t → k ≤ a → ∃ t', LST h k x t'
  | a, 0, x, t, l, _ => ⟨x, rfl⟩
  | 0, k + 1, x, t, l, hk => by omega
  | a + 1, k + 1, x, t, l, hk => by
    obtain ⟨t', l'⟩ := LST_pre a k _ t l.2 (by omega)
    exact ⟨t', l.1, l'⟩
theorem SZ_lst {h : Nat → Int64} {x : Int64} (g : HP h n ow kd Fv P) (gx : GT n ow kd P x) (h5 : so x ≠ 5) : ∃ f s, SZ h n ow kd Fv P f x s ∧ s ≤ 500 := by
  by_cases z : isH x
  · obtain ⟨f, s, a, b⟩ := g x z gx
    refine ⟨f, s, a, ?_⟩
    by_cases y : s ≤ 500
    · exact y
    · exact absurd (b (by omega)).1 h5
  · rcases gx with ⟨-, b⟩ | ⟨a, -⟩
    · exact ⟨1, 0, Or.inl ⟨z, b, rfl⟩, by omega⟩
    · exact absurd a z
theorem LST_so {h : Nat → Int64} {x t : Int64} {a : Nat} (l : LST h a x t) (h6 : so t = 6) : so x ≠ 5 := by
  cases a with
  | zero => rw [show x = t from l]; omega
  | succ a => have := l.1; omega
theorem nar0 : vp_nar .boolean 0 = I 0 := rfl
theorem nar1 : vp_nar .boolean 1 = I 1 := rfl
theorem joined_ok (e : ERX Fv P PR T C ND CN p u fr ro rn rh cb pc ct q n ow kd (ro (fr - 1) + tH T q) (rn (fr - 1) + rh (fr - 1) + tM T q) bxM mu) (hp' : PGM Fv P PR T C pM pE ND CN PN SN UN FN u) (hq : tB T q + 2 ≤ tH T q) (hm : m < ND) (hx : NX T q m (tH T q - 1) (tM T q)) (h98 : A u 98 (60 * p + (fr - 1)) = ((m : Nat) : Int)) (hN : 60000 ≤ N) : OK (fun v _ => RES Fv P PR T C ND CN p mu u v) (fm_M_joined N u) := by
  have i := e.1
  have x4 := MEI_p i
  have hH := (hp'.1.2.2.1 q e.2.2.1).1.1
  have hf := e.2.1.1
  have hro := (e.2.1.2.2.1 (fr - 1) (by omega)).2.2.2.2.1
  obtain ⟨f0, c, hc⟩ := top_sz (a := 2) i (by omega)
  have c1 := hc 1 (by omega)
  have c0 := hc 0 (by omega)
  rw [show ro (fr - 1) + tH T q - 1 - 1 = ro (fr - 1) + tH T q - 2 from by omega] at c1
  rw [show ro (fr - 1) + tH T q - 1 - 0 = ro (fr - 1) + tH T q - 1 from by omega] at c0
  have bad : ∀ w, FR [] [] [] [141] u w → OK (fun v _ => RES Fv P PR T C ND CN p mu u v) (fb_M_joined_52 N (gg_M_joined N N) w) := fun w fw => by
    unfold fb_M_joined_52
    have iw : MEI Fv P PR w p n ow kd (ro (fr - 1) + tH T q) (rn (fr - 1) + rh (fr - 1) + tM T q) bxM := MEI_fr i fw (by decide) (by decide) (by decide) (by decide) (by decide) (by decide) (by decide) (by decide) (by decide) (by decide) (by decide) (by decide) (by decide) (by decide) (by decide) (by decide) (by decide) (by decide)
    have ew := ERX_fr e fw (by decide) (by decide) (by decide) iw (by omega) (Nat.le_refl _)
    exact ok_bnd.mpr (ok_mono (err_ok (N := N) (a := 11) ew (PGM_fr hp' fw (by decide) (by decide)) (by omega) hN) (fun y _ hy => ok_some.mpr (RES.pre fw (OTF_fr fw (by decide)) (by decide) (by decide) (by decide) (by decide) hy)))
  obtain ⟨t1, g1⟩ := top_ok (N := N) (k := 1) i (by omega)
  rw [show ro (fr - 1) + tH T q - 1 - 1 = ro (fr - 1) + tH T q - 2 from by omega] at t1 g1
  unfold fm_M_joined fb_M_joined_0
  rw [lit1q, show (1 : Int) = ((1 : Nat) : Int) from rfl, t1, bnd_so]
  refine ok_bnd.mpr (ok_mono (lengthOf_ok (N := N) i g1 (by omega)) (fun v r hv => ?_))
  obtain ⟨v1, v2⟩ := hv
  subst v1
  rcases v2 with v2 | ⟨a, t, v2, l, h6, ha⟩
  · subst v2
    refine ok_br.mpr ⟨fun _ => bad _ FR.rf, fun z => absurd rfl (of_decide_eq_false z)⟩
  subst v2
  have lp : ∀ k j w M, j + k = a → k < M → FR [] [] [168] [141] v w → (∀ i, i < j → A w 168 i = 0) → (0 < a → c 1 + c 0 ≤ 500) → OK (fun y _ => RES Fv P PR T C ND CN p mu v y) (gg_M_joined N M w (I a) (I j)) := by
    intro k
    induction k with
    | zero =>
      intro j w M hj hM fw ha0 hs
      obtain rfl : j = a := by omega
      obtain ⟨M, rfl⟩ : ∃ M', M = M' + 1 := ⟨M - 1, by omega⟩
      show OK _ (fb_M_joined_61 N (gg_M_joined N M) w (I j) (I j))
      unfold fb_M_joined_61
      rw [decI (by omega) (by omega) (by omega) (by omega), decide_eq_true (by omega), br_tq, lt_e, lit0q, wi_e]
      have f2 : FR [169] [] [168] [141] v (wi w 169 0) := FR.wi (FR.mo fw (by decide) (by decide) (by decide) (by decide)) (by decide)
      have e9 : F (wi w 169 0) 169 = 0 := by rw [F_wi (by omega) (by omega), if_pos rfl]
      have e8 : ∀ i, i < j → A (wi w 169 0) 168 i = 0 := ha0
      generalize wi w 169 0 = w2 at *
      have hpw : hp w2 p = hp v p := by unfold hp; rw [f2.2.2.2 88 (by decide)]
      have j91 : w2.2.2.2 91 = v.2.2.2 91 := f2.2.2.2 91 (by decide)
      have iw : MEI Fv P PR w2 p n ow kd (ro (fr - 1) + tH T q) (rn (fr - 1) + rh (fr - 1) + tM T q) bxM := MEI_fr i f2 (by decide) (by decide) (by decide) (by decide) (by decide) (by decide) (by decide) (by decide) (by decide) (by decide) (by decide) (by decide) (by decide) (by decide) (by decide) (by decide) (by decide) (by decide)
      have ew := ERX_fr e f2 (by decide) (by decide) (by decide) iw (by omega) (Nat.le_refl _)
      have kk := kn_all (g := A w2 168) j e8
      rw [show (2 : Int32) = I 2 from rfl, I_mul, show (2 : Int) * (j : Int) = ((2 * j : Nat) : Int) from by omega]
      refine ok_bnd.mpr (ok_mono (anew_ok (N := N) (K := j) (a := j) (f := f0) (sl := c 1) (t := t) (m := m) ew (PGM_fr hp' f2 (by decide) (by decide)) hq hm hx (by rw [FR.A f2 (by decide)]; exact h98) hN ha kk.symm (by rw [hpw, j91]; exact l) (by rw [hpw, j91]; exact c1) (Or.inl ⟨e9, f0, c 0, by rw [hpw, j91]; exact c0, hs⟩)) (fun y _ hy => ok_some.mpr (RES.pre f2 (OTF_fr f2 (by decide)) (by decide) (by decide) (by decide) (by decide) hy)))
    | succ k ih =>
      intro j w M hj hM fw ha0 hs
      obtain ⟨M, rfl⟩ : ∃ M', M = M' + 1 := ⟨M - 1, by omega⟩
      show OK _ (fb_M_joined_61 N (gg_M_joined N M) w (I a) (I j))
      unfold fb_M_joined_61
      rw [decI (by omega) (by omega) (by omega) (by omega), decide_eq_false (by omega), br_fq]
      refine ok_ck.mpr ⟨inb_at (k := 168) (n := 500) rfl (by omega) (by omega) (by decide), ok_lt.mpr ?_⟩
      rw [I_tn (x := (j : Int)) (by omega) (by omega), Int.toNat_natCast, nar0, wa_e, lit1q, I_add, show (j : Int) + 1 = ((j + 1 : Nat) : Int) from by omega]
      refine ih (j + 1) _ M (by omega) (by omega) (FR.wa fw (by decide)) (fun i hi => ?_) hs
      rw [A_eq (by omega) (by omega)]
      by_cases zi : i = j
      · rw [if_pos zi]
      · rw [if_neg zi]; exact ha0 i (by omega)
  have go : ∀ w, FR [] [] [] [141] v w → (0 < a → c 1 + c 0 ≤ 500) → OK (fun y _ => RES Fv P PR T C ND CN p mu v y) (fb_M_joined_59 N (gg_M_joined N N) w (I a)) := fun w fw hs => by
    unfold fb_M_joined_59
    rw [show (0 : Int32) = I ((0 : Nat) : Int) from rfl]
    exact lp a 0 w N (by omega) (by omega) (FR.mo fw (by decide) (by decide) (by decide) (by decide)) (fun i hi => absurd hi (Nat.not_lt_zero i)) hs
  rw [I_neg, decE (by omega) (by omega) (by omega) (by omega), decide_eq_false (by omega), br_fq, lit0q, decI (by omega) (by omega) (by omega) (by omega)]
  refine ok_br.mpr ⟨fun z => go v FR.rf (fun y => by have := of_decide_eq_true z; omega), fun z => ?_⟩
  refine copyE i hc (j := 1) (by omega) (by omega) FR.rf hN (fun y1 fy1 => ?_)
  rw [show (0 : Int) = ((0 : Nat) : Int) from rfl]
  refine copyE i hc (j := 0) (by omega) (by omega) fy1 hN (fun y2 fy2 => ?_)
  have b1 : cap c 1 ≤ 501 := by unfold cap; split <;> omega
  have b0 : cap c 0 ≤ 501 := by unfold cap; split <;> omega
  rw [I_add, lit500, decI (by omega) (by omega) (by omega) (by omega)]
  refine ok_br.mpr ⟨fun z => go y2 fy2 (fun _ => ?_), fun z => bad y2 fy2⟩
  have z' := of_decide_eq_true z
  unfold cap at z'
  by_cases q1 : c 1 ≤ 500
  · by_cases q0 : c 0 ≤ 500
    · rw [if_pos q1, if_pos q0] at z'; omega
    · rw [if_pos q1, if_neg q0] at z'; omega
  · rw [if_neg q1] at z'; omega
theorem lessened_ok (e : ERX Fv P PR T C ND CN p u fr ro rn rh cb pc ct q n ow kd (ro (fr - 1) + tH T q) (rn (fr - 1) + rh (fr - 1) + tM T q) bxM mu) (hp' : PGM Fv P PR T C pM pE ND CN PN SN UN FN u) (hq : tB T q + 2 ≤ tH T q) (hm : m < ND) (hx : NX T q m (tH T q - 1) (tM T q)) (h98 : A u 98 (60 * p + (fr - 1)) = ((m : Nat) : Int)) (hN : 11000000 ≤ N) : OK (fun v _ => RES Fv P PR T C ND CN p mu u v) (fm_M_lessened N u) := by
  have i := e.1
  have x4 := MEI_p i
  have hH := (hp'.1.2.2.1 q e.2.2.1).1.1
  have hf := e.2.1.1
  have hro := (e.2.1.2.2.1 (fr - 1) (by omega)).2.2.2.2.1
  have hg := i.2.2.2.2.2.2.1
  have n500 : n ≤ 500 := i.2.2.2.2.2.2.2.1
  have bad : OK (fun v _ => RES Fv P PR T C ND CN p mu u v) (fb_M_lessened_30 N (gg_M_lessened N N) u) := by
    unfold fb_M_lessened_30
    exact ok_bnd.mpr (ok_mono (err_ok (N := N) (a := 11) e hp' (by omega) (by omega)) (fun y _ hy => ok_some.mpr hy))
  obtain ⟨t1, g1⟩ := top_ok (N := N) (k := 1) i (by omega)
  obtain ⟨t0, g0⟩ := top_ok (N := N) (k := 0) i (by omega)
  rw [show ro (fr - 1) + tH T q - 1 - 1 = ro (fr - 1) + tH T q - 2 from by omega] at t1 g1
  rw [show ro (fr - 1) + tH T q - 1 - 0 = ro (fr - 1) + tH T q - 1 from by omega] at t0 g0
  unfold fm_M_lessened fb_M_lessened_0
  rw [show (1 : Int32) = I ((1 : Nat) : Int) from rfl, show (0 : Int32) = I ((0 : Nat) : Int) from rfl, t1, bnd_so]
  refine ok_bnd.mpr (ok_mono (lengthOf_ok (N := N) i g1 (by omega)) (fun v r hv => ?_))
  obtain ⟨v1, v2⟩ := hv
  subst v1
  rw [t0, bnd_so]
  refine ok_bnd.mpr (ok_mono (lengthOf_ok (N := N) i g0 (by omega)) (fun v' r0 hv => ?_))
  obtain ⟨v1, v3⟩ := hv
  subst v1
  rcases v2 with v2 | ⟨a, tl, v2, la, h6, ha⟩
  · subst v2
    refine ok_br.mpr ⟨fun _ => bad, fun z => absurd rfl (of_decide_eq_false z)⟩
  subst v2
  rcases v3 with v3 | ⟨b, tr, v3, lb, h6b, hb⟩
  · subst v3
    refine ok_br.mpr ⟨fun _ => bad, fun _ => ok_br.mpr ⟨fun _ => bad, fun z => absurd rfl (of_decide_eq_false z)⟩⟩
  subst v3
  rw [I_neg, decE (by omega) (by omega) (by omega) (by omega), decide_eq_false (by omega), br_fq, decE (by omega) (by omega) (by omega) (by omega), decide_eq_false (by omega), br_fq]
  obtain ⟨fl, sl, zl, hsl⟩ := SZ_lst hg g1 (LST_so la h6)
  obtain ⟨fq, sq, zq⟩ := HP_sz hg g0
  have hpw : ∀ w, FR [] [] [168] [141] v' w → hp w p = hp v' p := fun w fw => by unfold hp; rw [fw.2.2.2 88 (by decide)]
  have w133 : ∀ w, FR [] [] [168] [141] v' w → F w 133 = p := fun w fw => by rw [FR.F fw (by decide)]; exact i.2.2.1
  have tops : ∀ w (j : Nat), FR [] [] [168] [141] v' w → j < 2 → fm_M_top N w (I j) = some (w, v'.2.2.2 91 (46000 * p + (ro (fr - 1) + tH T q - 1 - j))) := fun w j fw hj => by
    rw [top_e (w133 w fw) (opM := ro (fr - 1) + tH T q) (by rw [FR.A fw (by decide)]; exact i.2.2.2.2.2.2.2.2.2.1.1) x4 (by omega) (by omega), fw.2.2.2 91 (by decide)]
  have L4 : ∀ (k j V : Nat) (w : MS) (M : Nat), j + k = V → V ≤ a → k < M → FR [] [] [168] [141] v' w → OK (fun y _ => RES Fv P PR T C ND CN p mu v' y) ((gg_M_lessened N M).2.2.2 w (I ((V : Int) - 1)) (I ((kn (A w 168) j : Nat) : Int)) (I j)) := by
    intro k
    induction k with
    | zero =>
      intro j V w M hj hV hM fw
      obtain rfl : j = V := by omega
      obtain ⟨M, rfl⟩ : ∃ M', M = M' + 1 := ⟨M - 1, by omega⟩
      show OK _ (fb_M_lessened_222 N (gg_M_lessened N M) w (I ((j : Int) - 1)) (I ((kn (A w 168) j : Nat) : Int)) (I j))
      unfold fb_M_lessened_222
      rw [decL (by omega) (by omega) (by omega) (by omega), decide_eq_true (by omega), br_tq, lt_e, lit1q, wi_e]
      have f2 : FR [169] [] [168] [141] v' (wi w 169 1) := FR.wi (FR.mo fw (by decide) (by decide) (by decide) (by decide)) (by decide)
      have e9 : F (wi w 169 1) 169 = 1 := by rw [F_wi (by omega) (by omega), if_pos rfl]
      have e8 : A (wi w 169 1) 168 = A w 168 := rfl
      rw [← e8]
      generalize wi w 169 1 = w2 at *
      have hpw : hp w2 p = hp v' p := by unfold hp; rw [f2.2.2.2 88 (by decide)]
      have j91 : w2.2.2.2 91 = v'.2.2.2 91 := f2.2.2.2 91 (by decide)
      have iw : MEI Fv P PR w2 p n ow kd (ro (fr - 1) + tH T q) (rn (fr - 1) + rh (fr - 1) + tM T q) bxM := MEI_fr i f2 (by decide) (by decide) (by decide) (by decide) (by decide) (by decide) (by decide) (by decide) (by decide) (by decide) (by decide) (by decide) (by decide) (by decide) (by decide) (by decide) (by decide) (by decide)
      have ew := ERX_fr e f2 (by decide) (by decide) (by decide) iw (by omega) (Nat.le_refl _)
      obtain ⟨t', l'⟩ := LST_pre a j _ _ la hV
      rw [I_add, show (j : Int) - 1 + 1 = (j : Int) from by omega, show (2 : Int32) = I 2 from rfl, I_mul, show (2 : Int) * ((kn (A w2 168) j : Nat) : Int) = ((2 * kn (A w2 168) j : Nat) : Int) from by omega]
      exact ok_bnd.mpr (ok_mono (anew_ok (N := N) (K := kn (A w2 168) j) (a := j) (f := fl) (sl := sl) (t := t') (m := m) ew (PGM_fr hp' f2 (by decide) (by decide)) hq hm hx (by rw [FR.A f2 (by decide)]; exact h98) (by omega) (by omega) rfl (by rw [hpw, j91]; exact l') (by rw [hpw, j91]; exact zl) (Or.inr ⟨by rw [e9]; decide, fun _ => hsl⟩)) (fun y _ hy => ok_some.mpr (RES.pre f2 (OTF_fr f2 (by decide)) (by decide) (by decide) (by decide) (by decide) hy)))
    | succ k ih =>
      intro j V w M hj hV hM fw
      obtain ⟨M, rfl⟩ : ∃ M', M = M' + 1 := ⟨M - 1, by omega⟩
      have kl := kn_le (g := A w 168) j
      have kst := kn_s (g := A w 168) (k := j)
      show OK _ (fb_M_lessened_222 N (gg_M_lessened N M) w (I ((V : Int) - 1)) (I ((kn (A w 168) j : Nat) : Int)) (I j))
      unfold fb_M_lessened_222
      rw [decL (by omega) (by omega) (by omega) (by omega), decide_eq_false (by omega), br_fq]
      refine ok_ck.mpr ⟨inb_at (k := 168) (n := 500) rfl (by omega) (by omega) (by decide), ?_⟩
      have r168 := A_r w 168 j
      unfold fb_M_lessened_247
      rw [I_tn (x := (j : Int)) (by omega) (by omega), Int.toNat_natCast, I_A (k := 168), lit0q, decE r168.1 r168.2 (by omega) (by omega), lit1q, I_add, I_add, show (j : Int) + 1 = ((j + 1 : Nat) : Int) from by omega]
      have := ih (j + 1) V w M (by omega) hV (by omega) fw
      refine ok_br.mpr ⟨fun z => ?_, fun z => ?_⟩
      · rw [if_pos (of_decide_eq_true z)] at kst
        rw [show ((kn (A w 168) j : Nat) : Int) + 1 = ((kn (A w 168) (j + 1) : Nat) : Int) from by omega]
        exact this
      · rw [if_neg (of_decide_eq_false z)] at kst
        rw [show ((kn (A w 168) j : Nat) : Int) = ((kn (A w 168) (j + 1) : Nat) : Int) from by omega]
        exact this
  have L2 : ∀ (k j V : Nat) (w : MS) (M : Nat) (x : Int64) (f s : Nat), j + k = b → V ≤ a → k * (a + 4) + a + 10 ≤ M → FR [] [] [168] [141] v' w → LST (hp v' p) k x tr → SZ (hp v' p) n ow kd Fv P f x s → OK (fun y _ => RES Fv P PR T C ND CN p mu v' y) ((gg_M_lessened N M).2.1 w (I a) (I b) (I ((V : Int) - 1)) (I 0) x (I j)) := by
    intro k
    induction k with
    | zero =>
      intro j V w M x f s hj hV hM fw l z
      obtain rfl : j = b := by omega
      obtain ⟨M, rfl⟩ : ∃ M', M = M' + 1 := ⟨M - 1, by omega⟩
      show OK _ (fb_M_lessened_72 N (gg_M_lessened N M) w (I a) (I j) (I ((V : Int) - 1)) (I 0) x (I j))
      unfold fb_M_lessened_72
      rw [decI (by omega) (by omega) (by omega) (by omega), decide_eq_true (by omega), br_tq]
      exact L4 V 0 V w M (by omega) hV (by omega) fw
    | succ k ih =>
      intro j V w M x f s hj hV hM fw l z
      obtain ⟨M, rfl⟩ : ∃ M', M = M' + 1 := ⟨M - 1, by omega⟩
      obtain ⟨f', sa, sb, y1, y2, y3, y4, y5, y6, y7⟩ := LST_sz l z
      have hM' : k * (a + 4) + a + 10 + (a + 3) ≤ M := by rw [Nat.succ_mul] at hM; omega
      have inner : ∀ (kk jj V : Nat) (w : MS) (M : Nat) (xl : Int64) (f s fg : Nat), jj + kk = a → V ≤ a → k * (a + 4) + a + 10 + (kk + 1) ≤ M → FR [] [] [168] [141] v' w → LST (hp v' p) kk xl tl → SZ (hp v' p) n ow kd Fv P f xl s → fg ≤ 1 → OK (fun y _ => RES Fv P PR T C ND CN p mu v' y) ((gg_M_lessened N M).2.2.1 w (I a) (I b) (I ((V : Int) - 1)) (I 0) (hp v' p (vn x + 1)) (I j) (hp v' p (vn x)) xl (I jj) (I fg)) := by
        intro kk
        induction kk with
        | zero =>
          intro jj V w M xl f s fg hj2 hV hM fw l z hfg
          obtain rfl : jj = a := by omega
          obtain ⟨M, rfl⟩ : ∃ M', M = M' + 1 := ⟨M - 1, by omega⟩
          show OK _ (fb_M_lessened_123 N (gg_M_lessened N M) w (I jj) (I b) (I ((V : Int) - 1)) (I 0) (hp v' p (vn x + 1)) (I j) (hp v' p (vn x)) xl (I jj) (I fg))
          unfold fb_M_lessened_123 fb_M_lessened_213
          rw [decI (by omega) (by omega) (by omega) (by omega), decide_eq_true (by omega), br_tq, lit1q, I_add, show (j : Int) + 1 = ((j + 1 : Nat) : Int) from by omega]
          exact ih (j + 1) V w M _ f' sb (by omega) hV (by omega) fw y5 y3
        | succ kk ih2 =>
          intro jj V w M xl f s fg hj2 hV hM fw l z hfg
          obtain ⟨M, rfl⟩ : ∃ M', M = M' + 1 := ⟨M - 1, by omega⟩
          obtain ⟨f'', sa', sb', q1, q2, q3, q4, q5, q6, q7⟩ := LST_sz l z
          have hpw' := hpw w fw
          show OK _ (fb_M_lessened_123 N (gg_M_lessened N M) w (I a) (I b) (I ((V : Int) - 1)) (I 0) (hp v' p (vn x + 1)) (I j) (hp v' p (vn x)) xl (I jj) (I fg))
          have nxl : ∀ (w : MS) (V fg : Nat), V ≤ a → fg ≤ 1 → FR [] [] [168] [141] v' w → OK (fun y _ => RES Fv P PR T C ND CN p mu v' y) (fb_M_lessened_190 N (gg_M_lessened N M) w (I a) (I b) (I ((V : Int) - 1)) (I 0) (hp v' p (vn x + 1)) (I j) (hp v' p (vn x)) xl (I jj) (I fg)) := fun w V fg hV hfg fw => by
            unfold fb_M_lessened_190
            rw [valueOf_e, bnd_so, I_F' (w133 w fw), q6, lit1q, I_add, show (vn xl : Int) + 1 = ((vn xl + 1 : Nat) : Int) from by omega, cell_e (by omega) (by omega), bnd_so, I_add, show (jj : Int) + 1 = ((jj + 1 : Nat) : Int) from by omega, hpw w fw]
            exact ih2 (jj + 1) V w M _ f'' sb' fg (by omega) hV (by omega) fw q5 q3 hfg
          unfold fb_M_lessened_123
          have out : OK (fun y _ => RES Fv P PR T C ND CN p mu v' y) (fb_M_lessened_213 N (gg_M_lessened N M) w (I a) (I b) (I ((V : Int) - 1)) (I 0) (hp v' p (vn x + 1)) (I j)) := by
            unfold fb_M_lessened_213
            rw [lit1q, I_add, show (j : Int) + 1 = ((j + 1 : Nat) : Int) from by omega]
            exact ih (j + 1) V w M _ f' sb (by omega) hV (by omega) fw y5 y3
          rw [decI (by omega) (by omega) (by omega) (by omega), decide_eq_false (by omega), br_fq]
          refine ok_br.mpr ⟨fun _ => out, fun _ => ok_ck.mpr ⟨inb_at (k := 168) (n := 500) rfl (by omega) (by omega) (by decide), ok_br.mpr ⟨fun _ => ?_, fun _ => nxl w V fg hV hfg fw⟩⟩⟩
          rw [valueOf_e, bnd_so, I_F' (w133 w fw), q6, cell_e (by omega) (by omega), bnd_so, hpw']
          have hpg := PGM_fr hp' fw (by decide) (by decide)
          refine ok_bnd.mpr (ok_mono (order_ok (N := N) (Fv := Fv) (P := P) (n := n) (ow := ow) (kd := kd) n500 x4 hpg.2.2.1 hpg.2.2.2.1 hpg.2.2.2.2 (w133 w fw) (by rw [hpw']; exact hg) (SZ_gt q2) (SZ_gt y2) (by omega)) (fun w7 r7 f7 => ?_))
          have fw7 : FR [] [] [168] [141] v' w7 := FR.tr fw (FR.mo f7 (by decide) (by decide) (by decide) (by decide))
          refine ok_br.mpr ⟨fun _ => ok_ck.mpr ⟨inb_at (k := 168) (n := 500) rfl (by omega) (by omega) (by decide), ok_lt.mpr ?_⟩, fun _ => nxl w7 V fg hV hfg fw7⟩
          rw [I_tn (x := (jj : Int)) (by omega) (by omega), Int.toNat_natCast, nar1, wa_e]
          have fw8 : FR [] [] [168] [141] v' (wa w7 168 jj 1) := FR.wa fw7 (by decide)
          unfold fb_M_lessened_186
          rw [show (0 : Int32) = I ((0 : Nat) : Int) from rfl]
          refine ok_br.mpr ⟨fun _ => nxl _ V 0 hV (by omega) fw8, fun _ => ?_⟩
          have := nxl (wa w7 168 jj 1) (jj + 1) 0 (by omega) (by omega) fw8
          rw [show ((jj + 1 : Nat) : Int) - 1 = (jj : Int) from by omega] at this
          exact this
      show OK _ (fb_M_lessened_72 N (gg_M_lessened N M) w (I a) (I b) (I ((V : Int) - 1)) (I 0) x (I j))
      unfold fb_M_lessened_72
      rw [decI (by omega) (by omega) (by omega) (by omega), decide_eq_false (by omega), br_fq, valueOf_e, bnd_so, I_F' (w133 w fw), y6, cell_e (by omega) (by omega), bnd_so, valueOf_e, bnd_so, I_F' (w133 w fw), y6, show (1 : Int32) = I ((1 : Nat) : Int) from rfl, I_add, show (vn x : Int) + ((1 : Nat) : Int) = ((vn x + 1 : Nat) : Int) from by omega, cell_e (by omega) (by omega), bnd_so, tops w 1 fw (by omega), bnd_so, hpw w fw, show ro (fr - 1) + tH T q - 1 - 1 = ro (fr - 1) + tH T q - 2 from by omega]
      exact inner a 0 V w M _ fl sl 1 (by omega) hV (by omega) fw la zl (by omega)
  have L1 : ∀ (k j : Nat) (w : MS) (M : Nat), j + k = a → k + b * (a + 4) + a + 12 ≤ M → FR [] [] [168] [141] v' w → OK (fun y _ => RES Fv P PR T C ND CN p mu v' y) ((gg_M_lessened N M).1 w (I a) (I b) (I j)) := by
    intro k
    induction k with
    | zero =>
      intro j w M hj hM fw
      obtain rfl : j = a := by omega
      obtain ⟨M, rfl⟩ : ∃ M', M = M' + 1 := ⟨M - 1, by omega⟩
      show OK _ (fb_M_lessened_39 N (gg_M_lessened N M) w (I j) (I b) (I j))
      unfold fb_M_lessened_39
      rw [decI (by omega) (by omega) (by omega) (by omega), decide_eq_true (by omega), br_tq, show (0 : Int32) = I ((0 : Nat) : Int) from rfl, tops w 0 fw (by omega), bnd_so, show ro (fr - 1) + tH T q - 1 - 0 = ro (fr - 1) + tH T q - 1 from by omega]
      exact L2 b 0 0 w M _ fq sq (by omega) (by omega) (by omega) fw lb zq
    | succ k ih =>
      intro j w M hj hM fw
      obtain ⟨M, rfl⟩ : ∃ M', M = M' + 1 := ⟨M - 1, by omega⟩
      show OK _ (fb_M_lessened_39 N (gg_M_lessened N M) w (I a) (I b) (I j))
      unfold fb_M_lessened_39
      rw [decI (by omega) (by omega) (by omega) (by omega), decide_eq_false (by omega), br_fq]
      refine ok_ck.mpr ⟨inb_at (k := 168) (n := 500) rfl (by omega) (by omega) (by decide), ok_lt.mpr ?_⟩
      rw [I_tn (x := (j : Int)) (by omega) (by omega), Int.toNat_natCast, nar0, wa_e, lit1q, I_add, show (j : Int) + 1 = ((j + 1 : Nat) : Int) from by omega]
      exact ih (j + 1) _ M (by omega) (by omega) (FR.wa fw (by decide))
  refine L1 a 0 v' N (by omega) ?_ FR.rf
  have : b * (a + 4) ≤ 500 * 504 := Nat.mul_le_mul hb (by omega)
  omega
end
