section
variable {Fv : Int64 → Int64 → Prop} {P : Int64 → Prop} {u v w w2 : MS} {PR N p n n2 opM bnM bxM bx2 ND fr k tp mu CN PN SN UN FN rq q m h mm : Nat} {ow kd ow2 kd2 ro rn rh cb pc ct pM pE : Nat → Nat} {T : TY} {C : CY}
theorem va_w {x : Int32} : va x.toInt64 = x.toInt := by
  unfold va
  rw [Int32.toInt32_toInt64]
set_option maxRecDepth 100000 in
theorem tup2 {a : Nat} (e : ERX Fv P PR T C ND CN p v fr ro rn rh cb pc ct q n ow kd opM bnM bxM mu) (hH : tH T q ≤ 760) (hq : tB T q + a ≤ tH T q) (ha : a ≤ 8) (hm : m < ND) (hx : NX T q m (tH T q + 1 - a) (tM T q)) (h98 : A v 98 (60 * p + (fr - 1)) = ((m : Nat) : Int)) (ho : opM = ro (fr - 1) + tH T q) (hb : bnM = rn (fr - 1) + rh (fr - 1) + tM T q) (h5 : n + (1 + a) ≤ 500)
    (hs : ∀ f c, (∀ j, j < a → SZ (hp v p) n ow kd Fv P f (v.2.2.2 91 (46000 * p + (opM - a + j))) (c j)) → 1 + a + smm c 0 a ≤ 500) : ∀ k j w M, j + k = a → k < M → FR [] [] [89] [88] v w → (∀ z, A w 89 z = if z = p then ((n + (1 + a) : Nat) : Int) else A v 89 z) → hp w p n = (I a).toInt64 → (∀ i, i < j → hp w p (n + (1 + i)) = v.2.2.2 91 (46000 * p + (opM - a + i))) → (∀ i, ¬ (500 * p + n ≤ i ∧ i < 500 * p + n + (1 + a)) → w.2.2.2 88 i = v.2.2.2 88 i) → OK (fun w2 _ => RES Fv P PR T C ND CN p mu v w2) ((gg_M_tupleRun N M).2 w (I a) (I n) (I j)) := by
  have i := e.1
  have x4 := MEI_p i
  have hf := e.2.1.1
  have hro := (e.2.1.2.2.1 (fr - 1) (by omega)).2.2.2.2.1
  obtain ⟨m1, m2, m3, m4, m5, ⟨x1, x2, x3, x4', x5, x6, x7, x8, x9, x10, x11⟩⟩ := id i
  intro k
  induction k with
  | zero =>
    intro j w M hj hM f h89 c0 cj out
    obtain rfl : j = a := by omega
    obtain ⟨M, rfl⟩ : ∃ M', M = M' + 1 := ⟨M - 1, by omega⟩
    show OK _ (fb_M_tupleRun_111 N (gg_M_tupleRun N M) w (I j) (I n) (I j))
    unfold fb_M_tupleRun_111
    have w133 : F w 133 = p := by rw [FR.F f (by decide)]; exact m3
    have w92 : A w 92 p = ((opM : Nat) : Int) := by rw [FR.A f (by decide)]; exact x5.1
    rw [decI (by omega) (by omega) (by omega) (by omega), decide_eq_true (by omega), br_tq, I_F' w133, inb_at (k := 92) (n := 24) rfl (by omega) (by omega) (by decide), ck_t, ck_t, lt_e, I_tn (x := (p : Int)) (by omega) (by omega), Int.toNat_natCast, I_A' w92, I_sub, show (opM : Int) - (j : Int) = ((opM - j : Nat) : Int) from by omega, wa_e, show (5 : Int32) = I 5 from rfl, term_e, bnd_so]
    have e5 : so (mk 5 (n : Int)) = 5 := so_mk (by omega) (by omega)
    have v5 : va (mk 5 (n : Int)) = n := va_mk (by omega) (by omega)
    have n5 : vn (mk 5 (n : Int)) = n := by unfold vn; rw [v5]; omega
    have vc : va (I (j : Int)).toInt64 = (j : Int) := by rw [va_w, I_ti (by omega) (by omega)]
    have bb : blk (hp w p) (mk 5 (n : Int)) = 1 + j := by unfold blk; rw [e5, n5, c0]; simp; unfold vn; rw [vc]; omega
    have pp : prt (mk 5 (n : Int)) = 1 := by unfold prt; rw [e5]; rfl
    have cc : ∀ i, 1 ≤ i → i < 1 + j → hp w p (n + i) = v.2.2.2 91 (46000 * p + (opM - j + (i - 1))) := fun i h1 h2 => by
      have := cj (i - 1) (by omega)
      rw [show 1 + (i - 1) = i from by omega] at this
      exact this
    obtain ⟨ow2, kd2, r1, r2, r3, -⟩ := MEI_alloc (m := 1 + j) (x := mk 5 (n : Int)) i f h89 h5 out (Or.inr (Or.inl e5)) (by omega) n5 bb (fun _ => by rw [c0]; exact ⟨by rw [vc]; omega, by rw [vc, Int32.toInt_toInt64]; exact I_ti (by omega) (by omega)⟩) (fun e => by omega) (fun i h1 h2 => by rw [pp] at h1; rw [cc i h1 h2]; exact x8 _ (by omega)) (Or.inr (fun f2 c hc => by
      rw [pp]
      have := hs f2 (fun i => c (1 + i)) (fun i hi => by have := hc (1 + i) (by rw [pp]; omega) (by omega); rw [cj i hi] at this; exact this)
      rw [smm_ext (c := c) (a := 1) (d := fun i => c (1 + i)) (b := 0) (1 + j - 1) (fun i _ => by show c (1 + i) = c (1 + (0 + i)); rw [Nat.zero_add]), show 1 + j - 1 = j from by omega]
      exact this))
    have r1' := ops_less r1 (k := opM - j) (by omega)
    have f2 : FR [] [] [89, 92] [88] v (wa w 92 p ((opM - j : Nat) : Int)) := FR.wa (FR.mo f (by decide) (by decide) (by decide) (by decide)) (by decide)
    have o2 : OTF p v (wa w 92 p ((opM - j : Nat) : Int)) := OTF.tr (OTF_fr f (by decide)) (OTF_at (FR.wa FR.rf (by decide) : FR [] [] [92] [] w _) (i0 := p) (fun j hj => by rw [A_eq (by omega) (by omega), if_neg hj]) (Or.inl ⟨by decide, rfl⟩))
    generalize wa w 92 p ((opM - j : Nat) : Int) = w2 at *
    have e2 := ERX_fr e f2 (by decide) (by decide) (by decide) r1' (by omega) (by omega)
    exact ok_bnd.mpr (ok_mono (putR (N := N) e2 hm hx (by rw [FR.A f2 (by decide)]; exact h98) (by omega) hb r2 (by omega)) (fun y _ hy => ok_some.mpr (RES.pre f2 o2 (by decide) (by decide) (by decide) (by decide) hy)))
  | succ k ih =>
    intro j w M hj hM f h89 c0 cj out
    obtain ⟨M, rfl⟩ : ∃ M', M = M' + 1 := ⟨M - 1, by omega⟩
    show OK _ (fb_M_tupleRun_111 N (gg_M_tupleRun N M) w (I a) (I n) (I j))
    unfold fb_M_tupleRun_111
    have w133 : F w 133 = p := by rw [FR.F f (by decide)]; exact m3
    have w92 : A w 92 p = ((opM : Nat) : Int) := by rw [FR.A f (by decide)]; exact x5.1
    rw [decI (by omega) (by omega) (by omega) (by omega), decide_eq_false (by omega), br_fq, I_F' w133, lit1q, I_sub, I_sub, show (a : Int) - 1 - (j : Int) = ((a - 1 - j : Nat) : Int) from by omega, top_e w133 w92 (by omega) (by omega) (by omega), bnd_so, lit500, I_mul, I_add, I_add, I_add, inb_at (k := 88) (n := 12500) rfl (by omega) (by omega) (by decide), ck_t, lt_e, I_tn (by omega) (by omega), show ((p : Int) * 500 + (n : Int) + 1 + (j : Int)).toNat = 500 * p + (n + (1 + j)) from by omega, wj_e, I_add, show (j : Int) + 1 = ((j + 1 : Nat) : Int) from by omega, show opM - 1 - (a - 1 - j) = opM - a + j from by omega, f.2.2.2 91 (by decide)]
    refine ih (j + 1) _ M (by omega) (by omega) (FR.wj f (by decide)) h89 (by rw [hp_wj, if_neg (by omega)]; exact c0) (fun i hi => ?_) (fun i hi => by rw [J_wj, if_pos rfl, if_neg (by omega)]; exact out i hi)
    rw [hp_wj]
    by_cases z : i = j
    · subst z; rw [if_pos rfl]
    · rw [if_neg (by omega)]; exact cj i (by omega)
def cap (c : Nat → Nat) (j : Nat) : Nat := if c j ≤ 500 then c j else 501
theorem cap_le {c : Nat → Nat} : ∀ k, smm (cap c) 0 k ≤ 501 * k := by
  intro k
  induction k with
  | zero => exact Nat.le_refl _
  | succ k ih =>
    show smm (cap c) 0 k + cap c (0 + k) ≤ _
    have : cap c (0 + k) ≤ 501 := by unfold cap; split <;> omega
    omega
theorem cap_eq {c : Nat → Nat} : ∀ k, smm (cap c) 0 k ≤ 500 → smm c 0 k = smm (cap c) 0 k := by
  intro k
  induction k with
  | zero => intro _; rfl
  | succ k ih =>
    intro h
    have h' : smm (cap c) 0 k + cap c (0 + k) ≤ 500 := h
    show smm c 0 k + c (0 + k) = smm (cap c) 0 k + cap c (0 + k)
    rw [ih (by omega)]
    have : cap c (0 + k) = c (0 + k) := by
      unfold cap at h' ⊢
      split
      · rfl
      · next z => rw [if_neg z] at h'; omega
    omega
theorem top_sz {a : Nat} (i : MEI Fv P PR u p n ow kd opM bnM bxM) (ha : a ≤ opM) : ∃ f : Nat, ∃ c : Nat → Nat, ∀ j, j < a → SZ (hp u p) n ow kd Fv P f (u.2.2.2 91 (46000 * p + (opM - 1 - j))) (c j) := by
  obtain ⟨m1, m2, m3, m4, m5, ⟨x1, x2, x3, x4', x5, x6, x7, x8, x9, x10, x11⟩⟩ := i
  exact SZ_all (fun j hj => HP_sz x2 (x8 _ (by omega)))
theorem copyE {j a f : Nat} {c : Nat → Nat} (i : MEI Fv P PR u p n ow kd opM bnM bxM) (hc : ∀ j, j < a → SZ (hp u p) n ow kd Fv P f (u.2.2.2 91 (46000 * p + (opM - 1 - j))) (c j)) (hj : j < a) (ha : a ≤ opM) (f1 : FR [] [] [] [141] u w) (hN : 60000 ≤ N) {α : Type} {Q : MS → α → Prop} {g : MS → Int32 → Option (MS × α)} (h : ∀ v, FR [] [] [] [141] u v → OK Q (g v (I ((cap c j : Nat) : Int)))) : OK Q (bnd (fm_M_top N w (I j)) (fun u12 r12 => bnd (fm_M_copySize N u12 (w.1 133) r12) (fun u13 r13 => g u13 r13))) := by
  obtain ⟨m1, m2, m3, m4, m5, ⟨x1, x2, x3, x4', x5, x6, x7, x8, x9, x10, x11⟩⟩ := i
  have hpw : hp w p = hp u p := by unfold hp; rw [f1.2.2.2 88 (by decide)]
  have w133 : F w 133 = p := by rw [FR.F f1 (by decide)]; exact m3
  rw [top_e w133 (by rw [FR.A f1 (by decide)]; exact x5.1) x4' x5.2 (by omega), bnd_so, I_F' w133, f1.2.2.2 91 (by decide)]
  refine ok_bnd.mpr (ok_mono (copySize_ok (N := N) (Fv := Fv) (P := P) (n := n) (ow := ow) (kd := kd) (f := f) (s := c j) (by rw [hpw]; exact x2) x3 (by omega) (by rw [hpw]; exact hc j hj) (by omega)) (fun v r hv => ?_))
  obtain ⟨v1, v2⟩ := hv
  rw [v2]
  exact h v (FR.tr f1 v1)
set_option maxRecDepth 100000 in
theorem i4 {a : Nat} (e : ERX Fv P PR T C ND CN p u fr ro rn rh cb pc ct q n ow kd (ro (fr - 1) + tH T q) (rn (fr - 1) + rh (fr - 1) + tM T q) bxM mu) (hp' : PGM Fv P PR T C pM pE ND CN PN SN UN FN u) (hq : tB T q + a ≤ tH T q) (ha : a ≤ 8) (hm : m < ND) (hx : NX T q m (tH T q + 1 - a) (tM T q)) (h98 : A u 98 (60 * p + (fr - 1)) = ((m : Nat) : Int)) (hN : 60000 ≤ N) : OK (fun v _ => RES Fv P PR T C ND CN p mu u v) (fm_M_tupleRun N u (I a)) := by
  have i := e.1
  have x4 := MEI_p i
  have hH := (hp'.1.2.2.1 q e.2.2.1).1.1
  have hf := e.2.1.1
  have hro := (e.2.1.2.2.1 (fr - 1) (by omega)).2.2.2.2.1
  obtain ⟨f0, c, hc⟩ := top_sz (a := a) i (by omega)
  have L1 : ∀ k j w M, j + k = a → k + a + 2 ≤ M → FR [] [] [] [141] u w → OK (fun v _ => RES Fv P PR T C ND CN p mu u v) ((gg_M_tupleRun N M).1 w (I a) (I ((1 + a + smm (cap c) 0 j : Nat) : Int)) (I j)) := by
    intro k
    induction k with
    | zero =>
      intro j w M hj hM f1
      obtain rfl : j = a := by omega
      obtain ⟨M, rfl⟩ : ∃ M', M = M' + 1 := ⟨M - 1, by omega⟩
      have cl := cap_le (c := c) j
      show OK _ (fb_M_tupleRun_6 N (gg_M_tupleRun N M) w (I j) (I ((1 + j + smm (cap c) 0 j : Nat) : Int)) (I j))
      unfold fb_M_tupleRun_6
      have hpw : hp w p = hp u p := by unfold hp; rw [f1.2.2.2 88 (by decide)]
      have iw : MEI Fv P PR w p n ow kd (ro (fr - 1) + tH T q) (rn (fr - 1) + rh (fr - 1) + tM T q) bxM := MEI_fr i f1 (by decide) (by decide) (by decide) (by decide) (by decide) (by decide) (by decide) (by decide) (by decide) (by decide) (by decide) (by decide) (by decide) (by decide) (by decide) (by decide) (by decide) (by decide)
      have ew := ERX_fr e f1 (by decide) (by decide) (by decide) iw (by omega) (Nat.le_refl _)
      have o1 : OTF p u w := OTF_fr f1 (by decide)
      rw [decI (by omega) (by omega) (by omega) (by omega), decide_eq_true (by omega), br_tq, lit500, decI (by omega) (by omega) (by omega) (by omega)]
      refine ok_br.mpr ⟨fun z => ?_, fun _ => ok_bnd.mpr (ok_mono (err_ok (N := N) (a := 11) ew (PGM_fr hp' f1 (by decide) (by decide)) (by omega) hN) (fun y _ hy => ok_some.mpr (RES.pre f1 o1 (by decide) (by decide) (by decide) (by decide) hy)))⟩
      have z' : 1 + j + smm (cap c) 0 j ≤ 500 := by have := of_decide_eq_true z; omega
      rw [I_F' iw.2.2.1, lit1q, I_add, show (1 : Int) + (j : Int) = ((1 + j : Nat) : Int) from by omega]
      refine ok_bnd.mpr (ok_mono (wantsE (N := N) ew (k := 1 + j) (by omega) hN) (fun v r hv => ?_))
      obtain ⟨n2, ow2, kd2, fd, v1, v2, v3, v4⟩ := hv
      have fu : FR [136, 138] [139] [89, 90, 135] [88, 91, 93, 107, 134, 137, 141] u v := FR.tr (FR.mo f1 (by decide) (by decide) (by decide) (by decide)) (FR.mo v2 (by decide) (by decide) (by decide) (by decide))
      have ou : OTF p u v := OTF_fr fu (by decide)
      have pre : ∀ y, RES Fv P PR T C ND CN p mu v y → RES Fv P PR T C ND CN p mu u y := fun y hy => RES.pre fu ou (by decide) (by decide) (by decide) (by decide) hy
      refine ok_br.mpr ⟨fun _ => ok_bnd.mpr (ok_mono (noRoomR (N := N) v1 hp'.2.1) (fun y _ hy => ok_some.mpr (pre y hy))), fun zr => ?_⟩
      have h5 : n2 + (1 + j) ≤ 500 := by
        rcases v4 with ⟨-, y⟩ | y
        · exact y
        · exact absurd y (of_decide_eq_false zr)
      have v89 := v1.1.2.2.2.2.1
      have v133 := v1.1.2.2.1
      rw [I_F' v133]
      refine ok_ck.mpr ⟨inb_at (k := 89) (n := 25) rfl (by omega) (by omega) (by decide), ok_lt.mpr (ok_ck.mpr ⟨inb_at (k := 89) (n := 25) rfl (by omega) (by omega) (by decide), ok_ck.mpr ⟨inb_at (k := 89) (n := 25) rfl (by omega) (by omega) (by decide), ok_lt.mpr ?_⟩⟩)⟩
      rw [I_tn (x := (p : Int)) (by omega) (by omega), Int.toNat_natCast, I_A' v89, I_add, show (n2 : Int) + ((1 + j : Nat) : Int) = ((n2 + (1 + j) : Nat) : Int) from by omega, wa_e]
      rw [show (wa v 89 p ((n2 + (1 + j) : Nat) : Int)).1 133 = I p from I_F' v133, I_mul, I_add, show (0 : Int32) = I ((0 : Nat) : Int) from rfl]
      refine ok_ck.mpr ⟨inb_at (k := 88) (n := 12500) rfl (by omega) (by omega) (by decide), ok_lt.mpr ?_⟩
      rw [I_tn (by omega) (by omega), show ((p : Int) * 500 + (n2 : Int)).toNat = 500 * p + n2 from by omega, wj_e]
      refine ok_mono (tup2 (N := N) (a := j) (m := m) v1 hH hq ha hm hx (by rw [FR.A fu (by decide)]; exact h98) rfl rfl h5 (fun f2 d hd => ?_) j 0 _ M (by omega) (by omega) (FR.wj (FR.wa FR.rf (by decide)) (by decide)) (fun z => by rw [A_wj, A_eq (by omega) (by omega)]) (by rw [hp_wj, if_pos rfl]) (fun i hi => absurd hi (Nat.not_lt_zero i)) (fun i hi => by rw [J_wj, if_pos rfl, if_neg (by omega)]; rfl)) (fun y _ hy => pre y hy)
      have hd2 : ∀ i, i < j → d i = c (j - 1 - i) := fun i hi => by
        have h1 := hd i hi
        have h2 := hc (j - 1 - i) (by omega)
        have h3 := v3.2.2.1 (ro (fr - 1) + tH T q - j + i) f0 (c (j - 1 - i)) (by omega) (by rw [hpw, f1.2.2.2 91 (by decide)]; rw [show ro (fr - 1) + tH T q - j + i = ro (fr - 1) + tH T q - 1 - (j - 1 - i) from by omega]; exact h2)
        rw [v3.1 _ (by omega)] at h1
        exact SZ_fun h1 h3
      rw [smm_ext (c := d) (a := 0) (d := fun i => c (j - 1 - i)) (b := 0) j (fun i hi => by rw [Nat.zero_add]; exact hd2 i hi), smm_rev, cap_eq j (by omega)]
      exact z'
    | succ k ih =>
      intro j w M hj hM f1
      obtain ⟨M, rfl⟩ : ∃ M', M = M' + 1 := ⟨M - 1, by omega⟩
      have cl := cap_le (c := c) j
      have cl2 := cap_le (c := c) (j + 1)
      show OK _ (fb_M_tupleRun_6 N (gg_M_tupleRun N M) w (I a) (I ((1 + a + smm (cap c) 0 j : Nat) : Int)) (I j))
      unfold fb_M_tupleRun_6
      rw [decI (by omega) (by omega) (by omega) (by omega), decide_eq_false (by omega), br_fq]
      refine copyE i hc (by omega) (by omega) f1 hN (g := fun u13 r13 => (gg_M_tupleRun N M).1 u13 (I a) (I ((1 + a + smm (cap c) 0 j : Nat) : Int) + r13) (I j + 1)) (fun v fv => ?_)
      show OK _ ((gg_M_tupleRun N M).1 v (I a) (I ((1 + a + smm (cap c) 0 j : Nat) : Int) + I ((cap c j : Nat) : Int)) (I j + 1))
      rw [I_add, lit1q, I_add, show (j : Int) + 1 = ((j + 1 : Nat) : Int) from by omega, show ((1 + a + smm (cap c) 0 j : Nat) : Int) + ((cap c j : Nat) : Int) = ((1 + a + smm (cap c) 0 (j + 1) : Nat) : Int) from by
        show _ = ((1 + a + (smm (cap c) 0 j + cap c (0 + j)) : Nat) : Int)
        rw [Nat.zero_add]; omega]
      exact ih (j + 1) v M (by omega) (by omega) fv
  unfold fm_M_tupleRun fb_M_tupleRun_0
  rw [lit1q, I_add, lit0q, show (0 : Int) = ((0 : Nat) : Int) from rfl, show (1 : Int) + (a : Int) = ((1 + a + smm (cap c) 0 0 : Nat) : Int) from by show _ = ((1 + a + 0 : Nat) : Int); omega]
  exact L1 a 0 u N (by omega) (by omega) FR.rf
end
