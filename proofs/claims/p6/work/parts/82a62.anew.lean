section
variable {Fv : Int64 → Int64 → Prop} {P : Int64 → Prop} {u v w w2 : MS} {PR N p n n2 opM bnM bxM bx2 ND fr k tp mu CN PN SN UN FN rq q m h mm : Nat} {ow kd ow2 kd2 ro rn rh cb pc ct pM pE : Nat → Nat} {T : TY} {C : CY}
theorem LST_sz {h : Nat → Int64} {k f s : Nat} {x t : Int64} (l : LST h (k + 1) x t) (z : SZ h n ow kd Fv P f x s) : ∃ f' sa sb, f = f' + 1 ∧ SZ h n ow kd Fv P f' (h (vn x)) sa ∧ SZ h n ow kd Fv P f' (h (vn x + 1)) sb ∧ s = 2 + sa + sb ∧ LST h k (h (vn x + 1)) t ∧ va x = (vn x : Int) ∧ vn x + 2 ≤ n := by
  obtain ⟨l1, l2⟩ := l
  have hx : isH x := Or.inr (Or.inr l1)
  cases f with
  | zero => exact z.elim
  | succ f =>
    rcases z with ⟨z1, -⟩ | ⟨-, b, c, z3, z4⟩
    · exact absurd hx z1
    have bb : blk h x = 2 := by unfold blk; rw [l1]; rfl
    have pp : prt x = 0 := by unfold prt; rw [l1]; rfl
    rw [bb, pp] at z3 z4
    have bn := b.2.2.2.1
    rw [bb] at bn
    refine ⟨f, c 0, c 1, rfl, z3 0 (by omega) (by omega), z3 1 (by omega) (by omega), ?_, l2, by have := b.1; unfold vn; omega, bn⟩
    rw [z4]; show 2 + (0 + c (0 + 0) + c (0 + 1)) = _; simp; omega
def kn (g : Nat → Int) (k : Nat) : Nat := smm (fun j => if g j = 0 then 1 else 0) 0 k
def ks (g : Nat → Int) (c : Nat → Nat) (k : Nat) : Nat := smm (fun j => if g j = 0 then 2 + c j else 0) 0 k
theorem kn_s {g : Nat → Int} {k : Nat} : kn g (k + 1) = kn g k + if g k = 0 then 1 else 0 := by
  show smm _ 0 k + (if g (0 + k) = 0 then 1 else 0) = _
  rw [Nat.zero_add]; rfl
theorem ks_s {g : Nat → Int} {c : Nat → Nat} {k : Nat} : ks g c (k + 1) = ks g c k + if g k = 0 then 2 + c k else 0 := by
  show smm _ 0 k + (if g (0 + k) = 0 then 2 + c (0 + k) else 0) = _
  rw [Nat.zero_add]; rfl
theorem ks_le {g : Nat → Int} {c : Nat → Nat} : ∀ k, ks g c k ≤ smm (fun j => 2 + c j) 0 k := by
  intro k
  induction k with
  | zero => exact Nat.le_refl _
  | succ k ih =>
    rw [ks_s]
    show _ ≤ smm (fun j => 2 + c j) 0 k + (2 + c (0 + k))
    rw [Nat.zero_add]
    split <;> omega
theorem kn_le {g : Nat → Int} : ∀ k, kn g k ≤ k := by
  intro k
  induction k with
  | zero => exact Nat.le_refl _
  | succ k ih => rw [kn_s]; split <;> omega
theorem anew2 {g : Nat} {c : Nat → Nat} (e : ERX Fv P PR T C ND CN p v fr ro rn rh cb pc ct q n ow kd opM bnM bxM mu) (hq : tB T q + 2 ≤ tH T q) (hm : m < ND) (hx : NX T q m (tH T q - 1) (tM T q)) (h98 : A v 98 (60 * p + (fr - 1)) = ((m : Nat) : Int)) (ho : opM = ro (fr - 1) + tH T q) (hb : bnM = rn (fr - 1) + rh (fr - 1) + tM T q) : ∀ k w M nn ow2 kd2 f t s, k < M → k ≤ 500 → FR [] [] [89] [88] v w → MEI Fv P PR w p nn ow2 kd2 opM bnM bxM → SZ (hp w p) nn ow2 kd2 Fv P f t s → (∀ j, j < k → SZ (hp w p) nn ow2 kd2 Fv P g (v.2.2.2 167 j) (c j)) → nn + 2 * kn (A v 168) k ≤ 500 → (0 < kn (A v 168) k → ks (A v 168) c k + s ≤ 500) → OK (fun w2 _ => RES Fv P PR T C ND CN p mu v w2) ((gg_M_anew N M).2 w t (I ((k : Int) - 1))) := by
  intro k
  induction k with
  | zero =>
    intro w M nn ow2 kd2 f t s hM hk fw iw zt zc hn hs
    obtain ⟨M, rfl⟩ : ∃ M', M = M' + 1 := ⟨M - 1, by omega⟩
    have x4 := MEI_p iw
    have om : opM ≤ 46000 := iw.2.2.2.2.2.2.2.2.2.1.2
    show OK _ (fb_M_anew_95 N (gg_M_anew N M) w t (I (((0 : Nat) : Int) - 1)))
    unfold fb_M_anew_95
    rw [lit0q, decL (by omega) (by omega) (by omega) (by omega), decide_eq_true (by omega), br_tq, I_F' iw.2.2.1]
    refine ok_ck.mpr ⟨inb_at (k := 92) (n := 24) rfl (by omega) (by omega) (by decide), ok_ck.mpr ⟨inb_at (k := 92) (n := 24) rfl (by omega) (by omega) (by decide), ok_lt.mpr ?_⟩⟩
    rw [I_tn (x := (p : Int)) (by omega) (by omega), Int.toNat_natCast, I_A' iw.2.2.2.2.2.2.2.2.2.1.1, show (2 : Int32) = I 2 from rfl, I_sub, show (opM : Int) - 2 = ((opM - 2 : Nat) : Int) from by omega, wa_e]
    have i2 := ops_less iw (k := opM - 2) (by omega)
    have f2 : FR [] [] [89, 92] [88] v (wa w 92 p ((opM - 2 : Nat) : Int)) := FR.wa (FR.mo fw (by decide) (by decide) (by decide) (by decide)) (by decide)
    have o2 : OTF p v (wa w 92 p ((opM - 2 : Nat) : Int)) := OTF.tr (OTF_fr fw (by decide)) (OTF_at (FR.wa FR.rf (by decide) : FR [] [] [92] [] w _) (i0 := p) (fun j hj => by rw [A_eq (by omega) (by omega), if_neg hj]) (Or.inl ⟨by decide, rfl⟩))
    generalize wa w 92 p ((opM - 2 : Nat) : Int) = w2 at *
    have e2 := ERX_fr e f2 (by decide) (by decide) (by decide) i2 (by omega) (by omega)
    exact ok_bnd.mpr (ok_mono (putR (N := N) e2 hm hx (by rw [FR.A f2 (by decide)]; exact h98) (by omega) hb (SZ_gt zt) (by omega)) (fun y _ hy => ok_some.mpr (RES.pre f2 o2 (by decide) (by decide) (by decide) (by decide) hy)))
  | succ k ih =>
    intro w M nn ow2 kd2 f t s hM hk fw iw zt zc hn hs
    obtain ⟨M, rfl⟩ : ∃ M', M = M' + 1 := ⟨M - 1, by omega⟩
    show OK _ (fb_M_anew_95 N (gg_M_anew N M) w t (I (((k + 1 : Nat) : Int) - 1)))
    unfold fb_M_anew_95
    rw [show ((k + 1 : Nat) : Int) - 1 = (k : Int) from by omega, lit0q, decL (by omega) (by omega) (by omega) (by omega), decide_eq_false (by omega), br_fq]
    rw [kn_s] at hn hs
    rw [ks_s] at hs
    refine ok_ck.mpr ⟨inb_at (k := 168) (n := 500) rfl (by omega) (by omega) (by decide), ?_⟩
    have a168 : A w 168 k = A v 168 k := FR.A fw (by decide)
    have r168 := A_r v 168 k
    rw [I_tn (x := (k : Int)) (by omega) (by omega), Int.toNat_natCast, I_A' a168, decE r168.1 r168.2 (by omega) (by omega)]
    refine ok_br.mpr ⟨fun z => ok_ck.mpr ⟨inb_at (k := 167) (n := 500) rfl (by omega) (by omega) (by decide), ?_⟩, fun z => ?_⟩
    · have z' := of_decide_eq_true z
      rw [if_pos z'] at hn hs
      rw [if_pos z'] at hs
      have hs' := hs (by omega)
      rw [fw.2.2.2 167 (by decide)]
      refine ok_bnd.mpr (ok_mono (pair_ok (N := N) (f := g + f) (sa := c k) (sb := s) iw (SZ_le (zc k (by omega)) (by omega)) (SZ_le zt (by omega)) (by omega) (by omega)) (fun v4 r4 hv => ?_))
      obtain ⟨f4, y1, ow3, kd3, f2, y2, y3, y4, y5⟩ := hv
      unfold fb_M_anew_130
      rw [y1, show (7 : Int32) = I 7 from rfl, term_e, bnd_so, litm1q, I_add, show (k : Int) + -1 = (k : Int) - 1 from by omega]
      exact ih v4 M (nn + 2) ow3 kd3 f2 (mk 7 nn) (2 + c k + s) (by omega) (by omega) (FR.tr fw f4) y2 y3 (fun j hj => y5 _ _ _ (zc j (by omega))) (by omega) (fun _ => by omega)
    · have z' := of_decide_eq_false z
      rw [if_neg z'] at hn hs
      rw [if_neg z'] at hs
      unfold fb_M_anew_130
      rw [litm1q, I_add, show (k : Int) + -1 = (k : Int) - 1 from by omega]
      exact ih w M nn ow2 kd2 f t s (by omega) (by omega) fw iw zt (fun j hj => zc j (by omega)) (by omega) (fun y => by have := hs (by omega); omega)
theorem anew_ok {a K f sl : Nat} {t : Int64} (e : ERX Fv P PR T C ND CN p u fr ro rn rh cb pc ct q n ow kd (ro (fr - 1) + tH T q) (rn (fr - 1) + rh (fr - 1) + tM T q) bxM mu) (hp' : PGM Fv P PR T C pM pE ND CN PN SN UN FN u) (hq : tB T q + 2 ≤ tH T q) (hm : m < ND) (hx : NX T q m (tH T q - 1) (tM T q)) (h98 : A u 98 (60 * p + (fr - 1)) = ((m : Nat) : Int)) (hN : 60000 ≤ N) (ha : a ≤ 500) (hK : K = kn (A u 168) a) (hl : LST (hp u p) a (u.2.2.2 91 (46000 * p + (ro (fr - 1) + tH T q - 2))) t) (zl : SZ (hp u p) n ow kd Fv P f (u.2.2.2 91 (46000 * p + (ro (fr - 1) + tH T q - 2))) sl)
    (hc : (F u 169 = 0 ∧ ∃ f2 sr, SZ (hp u p) n ow kd Fv P f2 (u.2.2.2 91 (46000 * p + (ro (fr - 1) + tH T q - 1))) sr ∧ (0 < K → sl + sr ≤ 500)) ∨ (F u 169 ≠ 0 ∧ (0 < K → sl ≤ 500))) : OK (fun v _ => RES Fv P PR T C ND CN p mu u v) (fm_M_anew N u (I a) (I ((2 * K : Nat) : Int))) := by
  have i := e.1
  have x4 := MEI_p i
  have hH := (hp'.1.2.2.1 q e.2.2.1).1.1
  have hf := e.2.1.1
  have hro := (e.2.1.2.2.1 (fr - 1) (by omega)).2.2.2.2.1
  have kl := kn_le (g := A u 168) a
  unfold fm_M_anew fb_M_anew_0
  rw [I_F' i.2.2.1]
  refine ok_bnd.mpr (ok_mono (wantsE (N := N) e (k := 2 * K) (by omega) hN) (fun v r hv => ?_))
  obtain ⟨n2, ow2, kd2, fd, v1, v2, v3, v4⟩ := hv
  have ou : OTF p u v := OTF_fr v2 (by decide)
  have pre : ∀ y, RES Fv P PR T C ND CN p mu v y → RES Fv P PR T C ND CN p mu u y := fun y hy => RES.pre v2 ou (by decide) (by decide) (by decide) (by decide) hy
  refine ok_br.mpr ⟨fun _ => ok_bnd.mpr (ok_mono (noRoomR (N := N) v1 hp'.2.1) (fun y _ hy => ok_some.mpr (pre y hy))), fun zr => ?_⟩
  have h5 : n2 + 2 * K ≤ 500 := by
    rcases v4 with ⟨-, y⟩ | y
    · exact y
    · exact absurd y (of_decide_eq_false zr)
  have l2 := v3.2.2.2.2 (ro (fr - 1) + tH T q - 2) a t (by omega) hl
  have z2 := v3.2.2.1 (ro (fr - 1) + tH T q - 2) f sl (by omega) zl
  rw [← v3.1 _ (by omega)] at l2 z2
  generalize fd t = t2 at l2
  have e168 : A v 168 = A u 168 := funext (fun j => FR.A v2 (by decide))
  have e169 : F v 169 = F u 169 := FR.F v2 (by decide)
  have h98v : A v 98 (60 * p + (fr - 1)) = ((m : Nat) : Int) := by rw [FR.A v2 (by decide)]; exact h98
  have n500 : n2 ≤ 500 := v1.1.2.2.2.2.2.2.2.1
  have hc2 : (F v 169 = 0 ∧ ∃ f2 sr, SZ (hp v p) n2 ow2 kd2 Fv P f2 (v.2.2.2 91 (46000 * p + (ro (fr - 1) + tH T q - 1))) sr ∧ (0 < K → sl + sr ≤ 500)) ∨ (F v 169 ≠ 0 ∧ (0 < K → sl ≤ 500)) := by
    rw [e169]
    rcases hc with ⟨c1, f2, sr, c2, c3⟩ | c
    · have := v3.2.2.1 (ro (fr - 1) + tH T q - 1) f2 sr (by omega) c2
      rw [← v3.1 _ (by omega)] at this
      exact Or.inl ⟨c1, f2, sr, this, c3⟩
    · exact Or.inr c
  obtain ⟨t1, -⟩ := top_ok (N := N) (k := 1) v1.1 (by omega)
  rw [lit1q, show (1 : Int) = ((1 : Nat) : Int) from rfl, t1, bnd_so, show (0 : Int32) = I ((0 : Nat) : Int) from rfl]
  rw [show ro (fr - 1) + tH T q - 1 - 1 = ro (fr - 1) + tH T q - 2 from by omega]
  have L1 : ∀ (k j : Nat) (w : MS) (M : Nat) (x : Int64) (f s g : Nat) (c : Nat → Nat), j + k = a → k + a + 3 ≤ M → FR [] [] [] [167] v w → LST (hp v p) k x t2 → SZ (hp v p) n2 ow2 kd2 Fv P f x s → (∀ i, i < j → SZ (hp v p) n2 ow2 kd2 Fv P g (w.2.2.2 167 i) (c i)) → smm (fun i => 2 + c i) 0 j + s = sl → OK (fun y _ => RES Fv P PR T C ND CN p mu v y) ((gg_M_anew N M).1 w (I a) x (I j)) := by
    intro k
    induction k with
    | zero =>
      intro j w M x f s g c hj hM fw l z zc hs
      obtain rfl : j = a := by omega
      obtain ⟨M, rfl⟩ : ∃ M', M = M' + 1 := ⟨M - 1, by omega⟩
      have hpw : hp w p = hp v p := by unfold hp; rw [fw.2.2.2 88 (by decide)]
      have iw : MEI Fv P PR w p n2 ow2 kd2 (ro (fr - 1) + tH T q) (rn (fr - 1) + rh (fr - 1) + tM T q) bxM := MEI_fr v1.1 fw (by decide) (by decide) (by decide) (by decide) (by decide) (by decide) (by decide) (by decide) (by decide) (by decide) (by decide) (by decide) (by decide) (by decide) (by decide) (by decide) (by decide) (by decide)
      have ew := ERX_fr v1 fw (by decide) (by decide) (by decide) iw (by omega) (Nat.le_refl _)
      have e168w : A w 168 = A u 168 := by rw [← e168]; exact funext (fun j => FR.A fw (by decide))
      have kle := ks_le (g := A u 168) (c := c) j
      have go : ∀ t0 f0 s0, SZ (hp v p) n2 ow2 kd2 Fv P f0 t0 s0 → (0 < K → ks (A u 168) c j + s0 ≤ 500) → OK (fun y _ => RES Fv P PR T C ND CN p mu v y) (fb_M_anew_88 N (gg_M_anew N M) w (I j) t0) := fun t0 f0 s0 zz hz => by
        unfold fb_M_anew_88
        rw [lit1q, I_sub]
        exact ok_mono (anew2 (N := N) (g := g) (c := c) (m := m) ew hq hm hx (by rw [FR.A fw (by decide)]; exact h98v) rfl rfl j w M n2 ow2 kd2 f0 t0 s0 (by omega) ha FR.rf iw (by rw [hpw]; exact zz) (fun i hi => by rw [hpw]; exact zc i hi) (by rw [e168w, ← hK]; exact h5) (by rw [e168w, ← hK]; exact hz)) (fun y _ hy => RES.pre fw (OTF_fr fw (by decide)) (by decide) (by decide) (by decide) (by decide) hy)
      show OK _ (fb_M_anew_26 N (gg_M_anew N M) w (I j) x (I j))
      unfold fb_M_anew_26
      have r169 := F_r v 169
      rw [decI (by omega) (by omega) (by omega) (by omega), decide_eq_true (by omega), br_tq, I_F' (show F w 169 = F v 169 from FR.F fw (by decide)), lit0q, decE r169.1 r169.2 (by omega) (by omega)]
      refine ok_br.mpr ⟨fun zz => ?_, fun zz => ?_⟩
      · obtain ⟨t3, -⟩ := top_ok (N := N) (k := 0) iw (by omega)
        rw [show (0 : Int) = ((0 : Nat) : Int) from rfl, t3, bnd_so]
        rcases hc2 with ⟨-, f2, sr, c2, c3⟩ | ⟨c1, -⟩
        · rw [fw.2.2.2 91 (by decide)]
          exact go _ f2 sr c2 (fun y => by have := c3 y; omega)
        · exact absurd (of_decide_eq_true zz) c1
      · rcases hc2 with ⟨c1, -⟩ | ⟨-, c2⟩
        · exact absurd c1 (of_decide_eq_false zz)
        · exact go x f s z (fun y => by have := c2 y; omega)
    | succ k ih =>
      intro j w M x f s g c hj hM fw l z zc hs
      obtain ⟨M, rfl⟩ : ∃ M', M = M' + 1 := ⟨M - 1, by omega⟩
      obtain ⟨f', sa, sb, y1, y2, y3, y4, y5, y6, y7⟩ := LST_sz l z
      show OK _ (fb_M_anew_26 N (gg_M_anew N M) w (I a) x (I j))
      unfold fb_M_anew_26
      have hpw : hp w p = hp v p := by unfold hp; rw [fw.2.2.2 88 (by decide)]
      have w133 : F w 133 = p := by rw [FR.F fw (by decide)]; exact v1.1.2.2.1
      rw [decI (by omega) (by omega) (by omega) (by omega), decide_eq_false (by omega), br_fq, valueOf_e, bnd_so, I_F' w133, y6, cell_e (by omega) (by omega), bnd_so]
      refine ok_ck.mpr ⟨inb_at (k := 167) (n := 500) rfl (by omega) (by omega) (by decide), ok_lt.mpr ?_⟩
      rw [I_tn (x := (j : Int)) (by omega) (by omega), Int.toNat_natCast, wj_e, valueOf_e, bnd_so, show (wj w 167 j (hp w p (vn x))).1 133 = I p from I_F' w133, y6, lit1q, I_add, I_add, show (vn x : Int) + 1 = ((vn x + 1 : Nat) : Int) from by omega, cell_e (by omega) (by omega), bnd_so, show (j : Int) + 1 = ((j + 1 : Nat) : Int) from by omega, hpw]
      have hpz : hp (wj w 167 j (hp v p (vn x))) p = hp v p := hpw
      rw [hpz]
      refine ih (j + 1) _ M _ f' sb (g + f') (fun i => if i = j then sa else c i) (by omega) (by omega) (FR.wj fw (by decide)) y5 y3 (fun i hi => ?_) ?_
      · rw [J_wj, if_pos rfl]
        by_cases zi : i = j
        · subst zi; rw [if_pos rfl, if_pos rfl]; exact SZ_le y2 (by omega)
        · rw [if_neg zi, if_neg zi]; exact SZ_le (zc i (by omega)) (by omega)
      · show smm (fun i => 2 + if i = j then sa else c i) 0 j + (2 + if 0 + j = j then sa else c (0 + j)) + sb = sl
        rw [if_pos (by omega), smm_ext (c := fun i => 2 + if i = j then sa else c i) (a := 0) (d := fun i => 2 + c i) (b := 0) j (fun i hi => by show 2 + (if 0 + i = j then sa else c (0 + i)) = _; rw [if_neg (by omega)])]
        omega
  exact ok_mono (L1 a 0 v N _ f sl 0 (fun _ => 0) (by omega) (by omega) FR.rf l2 z2 (fun i hi => absurd hi (Nat.not_lt_zero i)) (by show 0 + sl = sl; omega)) (fun y _ hy => pre y hy)
end
