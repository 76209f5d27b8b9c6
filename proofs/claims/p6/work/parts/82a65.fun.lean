section
variable {Fv : Int64 → Int64 → Prop} {P : Int64 → Prop} {u v w w2 : MS} {PR N p n n2 opM bnM bxM bx2 ND fr k tp mu CN PN SN UN FN rq q m h mm : Nat} {ow kd ow2 kd2 ro rn rh cb pc ct pM pE : Nat → Nat} {T : TY} {C : CY}
def nix (rn rh : Nat) (c : Int) : Nat := if 0 ≤ c then rn + (rh + c.toNat) else rn + (-2 - c).toNat
theorem nix_lt {rn rh m : Nat} {c : Int} (hc : (0 ≤ c ∧ c < m) ∨ (c ≤ -2 ∧ -2 - c < rh)) : nix rn rh c < rn + rh + m := by
  unfold nix
  split <;> omega
theorem frame0_x (h0 : F w 133 = p) (hp : p < 24) (h1 : A w 95 p = ((fr : Nat) : Int)) (h2 : 1 ≤ fr ∧ fr ≤ 60) : fm_M_frame0 N w = some (w, I ((60 * p + (fr - 1) : Nat) : Int)) := by
  unfold fm_M_frame0 fb_M_frame0_0
  rw [I_F' h0, inb_at (k := 95) (n := 24) rfl (by omega) (by omega) (by decide), ck_t, I_tn (x := (p : Int)) (by omega) (by omega), Int.toNat_natCast, I_A' h1, show (60 : Int32) = I 60 from rfl, I_mul, I_add, lit1q, I_sub, show (p : Int) * 60 + (fr : Int) - 1 = ((60 * p + (fr - 1) : Nat) : Int) from by omega]
theorem nameAt_e {rn rh m : Nat} {c : Int} (h0 : F w 133 = p) (hp : p < 24) (h1 : A w 95 p = ((fr : Nat) : Int)) (h2 : 1 ≤ fr ∧ fr ≤ 60) (f4 : A w 99 (60 * p + (fr - 1)) = ((rn : Nat) : Int)) (f5 : A w 101 (60 * p + (fr - 1)) = ((rh : Nat) : Int)) (hb : rn + rh + m ≤ 2500) (hc : (0 ≤ c ∧ c < m) ∨ (c ≤ -2 ∧ -2 - c < rh)) : fm_M_nameAt N w (I c) = some (w, w.2.2.2 93 (2500 * p + nix rn rh c)) := by
  unfold fm_M_nameAt fb_M_nameAt_0 fb_M_nameAt_43 nix
  rw [frame0_x h0 hp h1 h2, bnd_so, inb_at (k := 99) (n := 1440) rfl (by omega) (by omega) (by decide), ck_t, lit0q, decI (by omega) (by omega) (by omega) (by omega), I_tn (x := ((60 * p + (fr - 1) : Nat) : Int)) (by omega) (by omega), Int.toNat_natCast, I_A' f4, I_F' h0, show (2500 : Int32) = I 2500 from rfl, I_mul, I_add, show isK 93 5 = true from by decide, ck_t, ck_t]
  by_cases e : 0 ≤ c
  · rw [decide_eq_true e, br_tq, inb_at (k := 101) (n := 1440) rfl (by omega) (by omega) (by decide), ck_t, I_A' f5, I_add, I_add, inb_at (k := 93) (n := 60000) rfl (by omega) (by omega) (by decide), ck_t, I_tn (by omega) (by omega), if_pos e]
    rw [show ((p : Int) * 2500 + (rn : Int) + ((rh : Int) + c)).toNat = 2500 * p + (rn + (rh + c.toNat)) from by omega]
  · rw [decide_eq_false e, br_fq, show (-2 : Int32) = I (-2) from rfl, I_sub, I_add, inb_at (k := 93) (n := 60000) rfl (by omega) (by omega) (by decide), ck_t, I_tn (by omega) (by omega), if_neg e]
    rw [show ((p : Int) * 2500 + (rn : Int) + (-2 - c)).toNat = 2500 * p + (rn + (-2 - c).toNat) from by omega]
theorem nameAt_x {is ls as js : List Nat} {c : Int} (e : ERX Fv P PR T C ND CN p u fr ro rn rh cb pc ct q n ow kd opM bnM bxM mu) (f : FR is ls as js u w) (h133 : 133 ∉ is) (h95 : 95 ∉ as) (h99 : 99 ∉ as) (h101 : 101 ∉ as) (hc : NCO c (tM T q) (tL T q)) : fm_M_nameAt N w (I c) = some (w, w.2.2.2 93 (2500 * p + nix (rn (fr - 1)) (rh (fr - 1)) c)) ∧ nix (rn (fr - 1)) (rh (fr - 1)) c < bnM := by
  have hf := e.2.1.1
  have hro := (e.2.1.2.2.1 (fr - 1) (by omega))
  have hl := e.2.2.2.1
  have b8 := e.2.2.2.2.2.2.2.1
  have bb : bnM ≤ 2500 := e.1.2.2.2.2.2.2.2.2.2.2.1.2
  unfold NCO at hc
  rw [← hl] at hc
  have := nix_lt (rn := rn (fr - 1)) hc
  exact ⟨nameAt_e (m := tM T q) (by rw [FR.F f h133]; exact e.1.2.2.1) (MEI_p e.1) (by rw [FR.A f h95]; exact hf.2.2) ⟨hf.1, hf.2.1⟩ (by rw [FR.A f h99]; exact hro.2.1) (by rw [FR.A f h101]; exact hro.2.2.1) (by omega) hc, by omega⟩
set_option maxRecDepth 100000 in
theorem fun2 {h x b0 : Nat} {v3 : Int32} {a0 : Int64} (e : ERX Fv P PR T C ND CN p v fr ro rn rh cb pc ct q n ow kd opM bnM bxM mu) (hH : tH T q ≤ 760) (hm : m < ND) (hx : NX T q m (tH T q + 1) (tM T q)) (h98 : A v 98 (60 * p + (fr - 1)) = ((m : Nat) : Int)) (ho : opM = ro (fr - 1) + tH T q) (hb : bnM = rn (fr - 1) + rh (fr - 1) + tM T q) (hh : h ≤ 40) (hv : 0 < h → v3 = I x ∧ x < 1400 ∧ A v 55 x = ((b0 : Nat) : Int) ∧ b0 + h ≤ 24000) (hnc : ∀ j, j < h → NCO (A v 57 (b0 + j)) (tM T q) (tL T q)) (hF : ∀ b, va b = h → Fv a0 b) (h5 : n + (2 + h) ≤ 500)
    (hs : ∀ f c, (∀ j, j < h → SZ (hp v p) n ow kd Fv P f (v.2.2.2 93 (2500 * p + nix (rn (fr - 1)) (rh (fr - 1)) (A v 57 (b0 + j)))) (c j)) → 2 + h + smm c 0 h ≤ 500) : ∀ k j w M, j + k = h → k < M → FR [] [] [89] [88] v w → (∀ z, A w 89 z = if z = p then ((n + (2 + h) : Nat) : Int) else A v 89 z) → hp w p n = a0 → hp w p (n + 1) = (I h).toInt64 → (∀ i, i < j → hp w p (n + (2 + i)) = v.2.2.2 93 (2500 * p + nix (rn (fr - 1)) (rh (fr - 1)) (A v 57 (b0 + i)))) → (∀ i, ¬ (500 * p + n ≤ i ∧ i < 500 * p + n + (2 + h)) → w.2.2.2 88 i = v.2.2.2 88 i) → OK (fun w2 _ => RES Fv P PR T C ND CN p mu v w2) ((gg_M_funRun N M).2 w v3 (I h) (I n) (I j)) := by
  have i := e.1
  have x4 := MEI_p i
  have hf := e.2.1.1
  have hro := (e.2.1.2.2.1 (fr - 1) (by omega)).2.2.2.2.1
  have hBq := e.2.2.2.2.2.2.1
  obtain ⟨m1, m2, m3, m4, m5, ⟨x1, x2, x3, x4', x5, x6, x7, x8, x9, x10, x11⟩⟩ := id i
  intro k
  induction k with
  | zero =>
    intro j w M hj hM f h89 c0 c1 cj out
    obtain rfl : j = h := by omega
    obtain ⟨M, rfl⟩ : ∃ M', M = M' + 1 := ⟨M - 1, by omega⟩
    show OK _ (fb_M_funRun_202 N (gg_M_funRun N M) w v3 (I j) (I n) (I j))
    unfold fb_M_funRun_202
    rw [decI (by omega) (by omega) (by omega) (by omega), decide_eq_true (by omega), br_tq, show (3 : Int32) = I 3 from rfl, term_e, bnd_so]
    have e5 : so (mk 3 (n : Int)) = 3 := so_mk (by omega) (by omega)
    have v5 : va (mk 3 (n : Int)) = n := va_mk (by omega) (by omega)
    have n5 : vn (mk 3 (n : Int)) = n := by unfold vn; rw [v5]; omega
    have vc : va (I (j : Int)).toInt64 = (j : Int) := by rw [va_w, I_ti (by omega) (by omega)]
    have bb : blk (hp w p) (mk 3 (n : Int)) = 2 + j := by unfold blk; rw [e5, n5, c1]; simp; unfold vn; rw [vc]; omega
    have pp : prt (mk 3 (n : Int)) = 2 := by unfold prt; rw [e5]; rfl
    have cc : ∀ i, 2 ≤ i → i < 2 + j → hp w p (n + i) = v.2.2.2 93 (2500 * p + nix (rn (fr - 1)) (rh (fr - 1)) (A v 57 (b0 + (i - 2)))) := fun i h1 h2 => by
      have := cj (i - 2) (by omega)
      rw [show 2 + (i - 2) = i from by omega] at this
      exact this
    obtain ⟨ow2, kd2, r1, r2, r3, -⟩ := MEI_alloc (m := 2 + j) (x := mk 3 (n : Int)) i f h89 h5 out (Or.inl e5) (by omega) n5 bb (fun e => by omega) (fun _ => by rw [c1, c0]; exact ⟨by omega, hF _ vc⟩) (fun i h1 h2 => by rw [pp] at h1; rw [cc i h1 h2]; exact x9 _ (nameAt_x (N := N) e (FR.rf : FR [] [] [] [] v v) (by decide) (by decide) (by decide) (by decide) (hnc (i - 2) (by omega))).2) (Or.inr (fun f2 c hc => by
      rw [pp]
      have := hs f2 (fun i => c (2 + i)) (fun i hi => by have := hc (2 + i) (by rw [pp]; omega) (by omega); rw [cj i hi] at this; exact this)
      rw [smm_ext (c := c) (a := 2) (d := fun i => c (2 + i)) (b := 0) (2 + j - 2) (fun i _ => by show c (2 + i) = c (2 + (0 + i)); rw [Nat.zero_add]), show 2 + j - 2 = j from by omega]
      exact this))
    have e2 := ERX_fr e f (by decide) (by decide) (by decide) r1 (by omega) (by omega)
    exact ok_bnd.mpr (ok_mono (putR (N := N) e2 hm hx (by rw [FR.A f (by decide)]; exact h98) (by omega) hb r2 (by omega)) (fun y _ hy => ok_some.mpr (RES.pre f (OTF_fr f (by decide)) (by decide) (by decide) (by decide) (by decide) hy)))
  | succ k ih =>
    intro j w M hj hM f h89 c0 c1 cj out
    obtain ⟨M, rfl⟩ : ∃ M', M = M' + 1 := ⟨M - 1, by omega⟩
    obtain ⟨hv1, hv2, hv3, hv4⟩ := hv (by omega)
    have nm := (nameAt_x (N := N) e f (by decide) (by decide) (by decide) (by decide) (hnc j (by omega))).1
    show OK _ (fb_M_funRun_202 N (gg_M_funRun N M) w v3 (I h) (I n) (I j))
    unfold fb_M_funRun_202
    have w133 : F w 133 = p := by rw [FR.F f (by decide)]; exact m3
    have w55 : A w 55 x = ((b0 : Nat) : Int) := by rw [FR.A f (by decide)]; exact hv3
    rw [decI (by omega) (by omega) (by omega) (by omega), decide_eq_false (by omega), br_fq, hv1, inb_at (k := 55) (n := 1400) rfl (by omega) (by omega) (by decide), ck_t, I_tn (x := (x : Int)) (by omega) (by omega), Int.toNat_natCast, I_A' w55, I_add, inb_at (k := 57) (n := 24000) rfl (by omega) (by omega) (by decide), ck_t, I_tn (x := (b0 : Int) + (j : Int)) (by omega) (by omega), show ((b0 : Int) + (j : Int)).toNat = b0 + j from by omega, I_A' (show A w 57 (b0 + j) = A v 57 (b0 + j) from FR.A f (by decide)), nm, bnd_so, I_F' w133, lit500, I_mul, I_add, show (2 : Int32) = I 2 from rfl, I_add, I_add, inb_at (k := 88) (n := 12500) rfl (by omega) (by omega) (by decide), ck_t, lt_e, I_tn (by omega) (by omega), show ((p : Int) * 500 + (n : Int) + 2 + (j : Int)).toNat = 500 * p + (n + (2 + j)) from by omega, wj_e, lit1q, I_add, show (j : Int) + 1 = ((j + 1 : Nat) : Int) from by omega, f.2.2.2 93 (by decide)]
    rw [← hv1]
    refine ih (j + 1) _ M (by omega) (by omega) (FR.wj f (by decide)) h89 (by rw [hp_wj, if_neg (by omega)]; exact c0) (by rw [hp_wj, if_neg (by omega)]; exact c1) (fun i hi => ?_) (fun i hi => by rw [J_wj, if_pos rfl, if_neg (by omega)]; exact out i hi)
    rw [hp_wj]
    by_cases z : i = j
    · subst z; rw [if_pos rfl]
    · rw [if_neg (by omega)]; exact cj i (by omega)
def FVW (Fv : Int64 → Int64 → Prop) (w : MS) (UN FN : Nat) : Prop := (∀ f : Nat, f < FN → ∀ b, va b = 0 → Fv (-1 - (I f).toInt64) b) ∧ (∀ x : Nat, x < UN → ∀ b, va b = A w 54 x → Fv (I x).toInt64 b) ∧ ∀ a b, Fv a b → (∃ f : Nat, f < FN ∧ a = -1 - (I f).toInt64 ∧ va b = 0) ∨ ∃ x : Nat, x < UN ∧ a = (I x).toInt64 ∧ va b = A w 54 x
set_option maxRecDepth 100000 in
theorem funC {h x b0 : Nat} {v3 : Int32} {kk : Int} (e : ERX Fv P PR T C ND CN p u fr ro rn rh cb pc ct q n ow kd (ro (fr - 1) + tH T q) (rn (fr - 1) + rh (fr - 1) + tM T q) bxM mu) (hp' : PGM Fv P PR T C pM pE ND CN PN SN UN FN u) (hm : m < ND) (hx : NX T q m (tH T q + 1) (tM T q)) (h98 : A u 98 (60 * p + (fr - 1)) = ((m : Nat) : Int)) (hN : 60000 ≤ N) (hkk : kk = 14 ∨ kk = 15) (hh : h ≤ 40) (hv : 0 < h → v3 = I x ∧ x < 1400 ∧ A u 55 x = ((b0 : Nat) : Int) ∧ b0 + h ≤ 24000) (hnc : ∀ j, j < h → NCO (A u 57 (b0 + j)) (tM T q) (tL T q)) (hF1 : kk = 15 → ∀ b, va b = h → Fv (-1 - (u.2.2.1 27 q).toInt64) b) (hF2 : kk ≠ 15 → ∀ b, va b = h → Fv v3.toInt64 b) : OK (fun v _ => RES Fv P PR T C ND CN p mu u v) ((gg_M_funRun N N).1 u (I q) (I kk) v3 (I h) (I ((2 + h : Nat) : Int)) (I ((0 : Nat) : Int))) := by
  have i := e.1
  have x4 := MEI_p i
  have nd := hp'.1.1.1
  have qn := e.2.2.1
  have hH := (hp'.1.2.2.1 q qn).1.1
  have hMM := (hp'.1.2.2.1 q qn).1.2.1
  have hBB := (hp'.1.2.2.1 q qn).1.2.2.2.1
  have hf := e.2.1.1
  have hro := (e.2.1.2.2.1 (fr - 1) (by omega)).2.2.2.2.1
  have hg := i.2.2.2.2.2.2.1
  have n500 : n ≤ 500 := i.2.2.2.2.2.2.2.1
  have x9 := i.2.2.2.2.2.2.2.2.2.2.2.2.2.1
  have nmb : ∀ j, j < h → nix (rn (fr - 1)) (rh (fr - 1)) (A u 57 (b0 + j)) < rn (fr - 1) + rh (fr - 1) + tM T q := fun j hj => (nameAt_x (N := N) e (FR.rf : FR [] [] [] [] u u) (by decide) (by decide) (by decide) (by decide) (hnc j hj)).2
  obtain ⟨f0, c, hc⟩ := SZ_all (h := hp u p) (n := n) (ow := ow) (kd := kd) (Fv := Fv) (P := P) (m := h) (q := fun j => u.2.2.2 93 (2500 * p + nix (rn (fr - 1)) (rh (fr - 1)) (A u 57 (b0 + j)))) (fun j hj => HP_sz hg (x9 _ (nmb j hj)))
  have L1 : ∀ k j w M, j + k = h → k + h + 3 ≤ M → FR [] [] [] [141] u w → OK (fun v _ => RES Fv P PR T C ND CN p mu u v) ((gg_M_funRun N M).1 w (I q) (I kk) v3 (I h) (I ((2 + h + smm (cap c) 0 j : Nat) : Int)) (I j)) := by
    intro k
    induction k with
    | zero =>
      intro j w M hj hM f1
      obtain rfl : j = h := by omega
      obtain ⟨M, rfl⟩ : ∃ M', M = M' + 1 := ⟨M - 1, by omega⟩
      have cl := cap_le (c := c) j
      show OK _ (fb_M_funRun_34 N (gg_M_funRun N M) w (I q) (I kk) v3 (I j) (I ((2 + j + smm (cap c) 0 j : Nat) : Int)) (I j))
      unfold fb_M_funRun_34
      have hpw : hp w p = hp u p := by unfold hp; rw [f1.2.2.2 88 (by decide)]
      have iw : MEI Fv P PR w p n ow kd (ro (fr - 1) + tH T q) (rn (fr - 1) + rh (fr - 1) + tM T q) bxM := MEI_fr i f1 (by decide) (by decide) (by decide) (by decide) (by decide) (by decide) (by decide) (by decide) (by decide) (by decide) (by decide) (by decide) (by decide) (by decide) (by decide) (by decide) (by decide) (by decide)
      have ew := ERX_fr e f1 (by decide) (by decide) (by decide) iw (by omega) (Nat.le_refl _)
      have o1 : OTF p u w := OTF_fr f1 (by decide)
      rw [decI (by omega) (by omega) (by omega) (by omega), decide_eq_true (by omega), br_tq, lit500, decI (by omega) (by omega) (by omega) (by omega)]
      refine ok_br.mpr ⟨fun z => ?_, fun _ => ok_bnd.mpr (ok_mono (err_ok (N := N) (a := 11) ew (PGM_fr hp' f1 (by decide) (by decide)) (by omega) hN) (fun y _ hy => ok_some.mpr (RES.pre f1 o1 (by decide) (by decide) (by decide) (by decide) hy)))⟩
      have z' : 2 + j + smm (cap c) 0 j ≤ 500 := by have := of_decide_eq_true z; omega
      rw [I_F' iw.2.2.1, show (2 : Int32) = I 2 from rfl, I_add, show (2 : Int) + (j : Int) = ((2 + j : Nat) : Int) from by omega]
      refine ok_bnd.mpr (ok_mono (wantsE (N := N) ew (k := 2 + j) (by omega) hN) (fun v r hv' => ?_))
      obtain ⟨n2, ow2, kd2, fd, v1, v2, v3', v4⟩ := hv'
      have fu : FR [136, 138] [139] [89, 90, 135] [88, 91, 93, 107, 134, 137, 141] u v := FR.tr (FR.mo f1 (by decide) (by decide) (by decide) (by decide)) (FR.mo v2 (by decide) (by decide) (by decide) (by decide))
      have ou : OTF p u v := OTF_fr fu (by decide)
      have pre : ∀ y, RES Fv P PR T C ND CN p mu v y → RES Fv P PR T C ND CN p mu u y := fun y hy => RES.pre fu ou (by decide) (by decide) (by decide) (by decide) hy
      refine ok_br.mpr ⟨fun _ => ok_bnd.mpr (ok_mono (noRoomR (N := N) v1 hp'.2.1) (fun y _ hy => ok_some.mpr (pre y hy))), fun zr => ?_⟩
      have h5 : n2 + (2 + j) ≤ 500 := by
        rcases v4 with ⟨-, y⟩ | y
        · exact y
        · exact absurd y (of_decide_eq_false zr)
      have v89 := v1.1.2.2.2.2.1
      have v133 := v1.1.2.2.1
      rw [I_F' v133]
      refine ok_ck.mpr ⟨inb_at (k := 89) (n := 25) rfl (by omega) (by omega) (by decide), ok_lt.mpr (ok_ck.mpr ⟨inb_at (k := 89) (n := 25) rfl (by omega) (by omega) (by decide), ok_ck.mpr ⟨inb_at (k := 89) (n := 25) rfl (by omega) (by omega) (by decide), ok_lt.mpr ?_⟩⟩)⟩
      rw [I_tn (x := (p : Int)) (by omega) (by omega), Int.toNat_natCast, I_A' v89, I_add, show (n2 : Int) + ((2 + j : Nat) : Int) = ((n2 + (2 + j) : Nat) : Int) from by omega, wa_e]
      have e57 : ∀ z, A v 57 z = A u 57 z := fun z => FR.A fu (by decide)
      have e27 : v.2.2.1 27 = u.2.2.1 27 := fu.2.2.1 27 (by decide)
      have last : ∀ a0 : Int64, (∀ b, va b = j → Fv a0 b) → OK (fun y _ => RES Fv P PR T C ND CN p mu u y) (fb_M_funRun_177 N (gg_M_funRun N M) (wa v 89 p ((n2 + (2 + j) : Nat) : Int)) v3 (I j) (I n2) 88 ((wa v 89 p ((n2 + (2 + j) : Nat) : Int)).1 133 * I 500 + I n2) a0) := fun a0 ha0 => by
        unfold fb_M_funRun_177
        rw [show isK 88 5 = true from by decide, ck_t, show (wa v 89 p ((n2 + (2 + j) : Nat) : Int)).1 133 = I p from I_F' v133, I_mul, I_add]
        refine ok_ck.mpr ⟨inb_at (k := 88) (n := 12500) rfl (by omega) (by omega) (by decide), ok_lt.mpr ?_⟩
        rw [I_tn (by omega) (by omega), show ((p : Int) * 500 + (n2 : Int)).toNat = 500 * p + n2 from by omega, wj_e, show (wj (wa v 89 p ((n2 + (2 + j) : Nat) : Int)) 88 (500 * p + n2) a0).1 133 = I p from I_F' v133, lit500, I_mul, I_add, lit1q, I_add]
        refine ok_ck.mpr ⟨inb_at (k := 88) (n := 12500) rfl (by omega) (by omega) (by decide), ok_lt.mpr ?_⟩
        rw [I_tn (by omega) (by omega), show ((p : Int) * 500 + (n2 : Int) + 1).toNat = 500 * p + (n2 + 1) from by omega, wj_e, show (0 : Int32) = I ((0 : Nat) : Int) from rfl]
        refine ok_mono (fun2 (N := N) (h := j) (x := x) (b0 := b0) (v3 := v3) (a0 := a0) (m := m) v1 hH hm hx (by rw [FR.A fu (by decide)]; exact h98) rfl rfl hh (fun z => by rw [FR.A fu (by decide)]; exact hv z) (fun i hi => by rw [e57]; exact hnc i hi) ha0 h5 (fun f2 d hd => ?_) j 0 _ M (by omega) (by omega) (FR.wj (FR.wj (FR.wa FR.rf (by decide)) (by decide)) (by decide)) (fun z => by rw [A_wj, A_wj, A_eq (by omega) (by omega)]) (by rw [hp_wj, if_neg (by omega), hp_wj, if_pos rfl]) (by rw [hp_wj, if_pos rfl]) (fun i hi => absurd hi (Nat.not_lt_zero i)) (fun i hi => by rw [J_wj, if_pos rfl, if_neg (by omega), J_wj, if_pos rfl, if_neg (by omega)]; rfl)) (fun y _ hy => pre y hy)
        have hd2 : ∀ i, i < j → d i = c i := fun i hi => by
          have h1 := hd i hi
          have h2 := hc i hi
          have h3 := v3'.2.2.2.1 (nix (rn (fr - 1)) (rh (fr - 1)) (A u 57 (b0 + i))) f0 (c i) (nmb i hi) (by rw [hpw, f1.2.2.2 93 (by decide)]; exact h2)
          rw [e57, v3'.2.1 _ (nmb i hi)] at h1
          exact SZ_fun h1 h3
        rw [smm_ext (c := d) (a := 0) (d := c) (b := 0) j (fun i hi => by rw [Nat.zero_add]; exact hd2 i hi), cap_eq j (by omega)]
        exact z'
      refine ok_br.mpr ⟨fun z15 => ok_ck.mpr ⟨inb_at (k := 27) (n := 16000) rfl (by omega) (by omega) (by decide), ?_⟩, fun z15 => ?_⟩
      · rw [show (15 : Int32) = I 15 from rfl, decE (by omega) (by omega) (by omega) (by omega)] at z15
        rw [I_tn (x := (q : Int)) (by omega) (by omega), Int.toNat_natCast]
        refine last _ ?_
        rw [show (wa v 89 p ((n2 + (2 + j) : Nat) : Int)).2.2.1 27 q = u.2.2.1 27 q from by rw [← e27]; rfl]
        exact hF1 (of_decide_eq_true z15)
      · rw [show (15 : Int32) = I 15 from rfl, decE (by omega) (by omega) (by omega) (by omega)] at z15
        exact last _ (hF2 (of_decide_eq_false z15))
    | succ k ih =>
      intro j w M hj hM f1
      obtain ⟨M, rfl⟩ : ∃ M', M = M' + 1 := ⟨M - 1, by omega⟩
      have cl := cap_le (c := c) j
      have cl2 := cap_le (c := c) (j + 1)
      obtain ⟨hv1, hv2, hv3, hv4⟩ := hv (by omega)
      have nm := (nameAt_x (N := N) e f1 (by decide) (by decide) (by decide) (by decide) (hnc j (by omega))).1
      show OK _ (fb_M_funRun_34 N (gg_M_funRun N M) w (I q) (I kk) v3 (I h) (I ((2 + h + smm (cap c) 0 j : Nat) : Int)) (I j))
      unfold fb_M_funRun_34
      have hpw : hp w p = hp u p := by unfold hp; rw [f1.2.2.2 88 (by decide)]
      have w133 : F w 133 = p := by rw [FR.F f1 (by decide)]; exact i.2.2.1
      have w55 : A w 55 x = ((b0 : Nat) : Int) := by rw [FR.A f1 (by decide)]; exact hv3
      rw [decI (by omega) (by omega) (by omega) (by omega), decide_eq_false (by omega), br_fq, hv1, inb_at (k := 55) (n := 1400) rfl (by omega) (by omega) (by decide), ck_t, I_tn (x := (x : Int)) (by omega) (by omega), Int.toNat_natCast, I_A' w55, I_add, inb_at (k := 57) (n := 24000) rfl (by omega) (by omega) (by decide), ck_t, I_tn (x := (b0 : Int) + (j : Int)) (by omega) (by omega), show ((b0 : Int) + (j : Int)).toNat = b0 + j from by omega, I_A' (show A w 57 (b0 + j) = A u 57 (b0 + j) from FR.A f1 (by decide)), nm, bnd_so, I_F' w133, f1.2.2.2 93 (by decide)]
      refine ok_bnd.mpr (ok_mono (copySize_ok (N := N) (Fv := Fv) (P := P) (n := n) (ow := ow) (kd := kd) (f := f0) (s := c j) (by rw [hpw]; exact hg) n500 (by omega) (by rw [hpw]; exact hc j (by omega)) (by omega)) (fun v r hv' => ?_))
      obtain ⟨v1, v2⟩ := hv'
      rw [v2, show ((if c j ≤ 500 then c j else 501 : Nat)) = cap c j from rfl, I_add, lit1q, I_add, show (j : Int) + 1 = ((j + 1 : Nat) : Int) from by omega, show ((2 + h + smm (cap c) 0 j : Nat) : Int) + ((cap c j : Nat) : Int) = ((2 + h + smm (cap c) 0 (j + 1) : Nat) : Int) from by
        show _ = ((2 + h + (smm (cap c) 0 j + cap c (0 + j)) : Nat) : Int)
        rw [Nat.zero_add]; omega]
      rw [← hv1]
      exact ih (j + 1) v M (by omega) (by omega) (FR.tr f1 v1)
  exact L1 h 0 u N (by omega) (by omega) FR.rf
theorem i15 (e : ERX Fv P PR T C ND CN p u fr ro rn rh cb pc ct q n ow kd (ro (fr - 1) + tH T q) (rn (fr - 1) + rh (fr - 1) + tM T q) bxM mu) (hp' : PGM Fv P PR T C pM pE ND CN PN SN UN FN u) (hfv : FVW Fv u UN FN) (hm : m < ND) (hx : NX T q m (tH T q + 1) (tM T q)) (h98 : A u 98 (60 * p + (fr - 1)) = ((m : Nat) : Int)) (h27 : 0 ≤ A u 27 q ∧ A u 27 q < FN) (hN : 60000 ≤ N) : OK (fun v _ => RES Fv P PR T C ND CN p mu u v) (fm_M_funRun N u (I q) (I 15)) := by
  have nd := hp'.1.1.1
  have qn := e.2.2.1
  unfold fm_M_funRun fb_M_funRun_0
  refine ok_ck.mpr ⟨inb_at (k := 25) (n := 16000) rfl (by omega) (by omega) (by decide), ?_⟩
  rw [show (15 : Int32) = I 15 from rfl, decE (by omega) (by omega) (by omega) (by omega), decide_eq_true rfl, br_tq]
  unfold fb_M_funRun_23
  rw [show (2 : Int32) + 0 = I ((2 + 0 : Nat) : Int) from rfl, show (0 : Int32) = I ((0 : Nat) : Int) from rfl]
  refine funC (N := N) (h := 0) (x := 0) (b0 := 0) (kk := 15) e hp' hm hx h98 hN (Or.inr rfl) (by omega) (fun z => by omega) (fun j hj => by omega) (fun _ b hb => ?_) (fun z => absurd rfl z)
  obtain ⟨g, hg⟩ : ∃ g : Nat, A u 27 q = g := ⟨(A u 27 q).toNat, by omega⟩
  rw [I_A' hg]
  exact hfv.1 g (by omega) b hb
theorem i14 {x h b0 : Nat} (e : ERX Fv P PR T C ND CN p u fr ro rn rh cb pc ct q n ow kd (ro (fr - 1) + tH T q) (rn (fr - 1) + rh (fr - 1) + tM T q) bxM mu) (hp' : PGM Fv P PR T C pM pE ND CN PN SN UN FN u) (hfv : FVW Fv u UN FN) (hm : m < ND) (hx : NX T q m (tH T q + 1) (tM T q)) (h98 : A u 98 (60 * p + (fr - 1)) = ((m : Nat) : Int)) (h25 : A u 25 q = x) (hxu : x < UN) (h54 : A u 54 x = h) (hh : h ≤ 40) (h55 : A u 55 x = b0) (hb0 : b0 + h ≤ 24000) (hnc : ∀ i : Nat, i < h → NCO (A u 57 (b0 + i)) (tM T q) (tL T q)) (hN : 60000 ≤ N) : OK (fun v _ => RES Fv P PR T C ND CN p mu u v) (fm_M_funRun N u (I q) (I 14)) := by
  have nd := hp'.1.1.1
  have un := hp'.1.1.2.2.2.1
  have qn := e.2.2.1
  unfold fm_M_funRun fb_M_funRun_0
  refine ok_ck.mpr ⟨inb_at (k := 25) (n := 16000) rfl (by omega) (by omega) (by decide), ?_⟩
  rw [show (15 : Int32) = I 15 from rfl, decE (by omega) (by omega) (by omega) (by omega), decide_eq_false (by omega), br_fq, I_tn (x := (q : Int)) (by omega) (by omega), Int.toNat_natCast, I_A' h25]
  refine ok_ck.mpr ⟨inb_at (k := 54) (n := 1400) rfl (by omega) (by omega) (by decide), ?_⟩
  unfold fb_M_funRun_23
  rw [I_tn (x := (x : Int)) (by omega) (by omega), Int.toNat_natCast, I_A' h54, show (2 : Int32) = I 2 from rfl, I_add, show (2 : Int) + (h : Int) = ((2 + h : Nat) : Int) from by omega, show (0 : Int32) = I ((0 : Nat) : Int) from rfl]
  exact funC (N := N) (h := h) (x := x) (b0 := b0) (kk := 14) e hp' hm hx h98 hN (Or.inl rfl) hh (fun _ => ⟨rfl, by omega, h55, hb0⟩) hnc (fun z => by omega) (fun _ b hb => hfv.2.1 x hxu b (by rw [h54]; exact hb))
end
